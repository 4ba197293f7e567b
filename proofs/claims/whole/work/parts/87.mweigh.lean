/-! the reference weighs -/
section zMweigh
variable {κ : zK} {d : Nat} {Q : Option zV → zM → Prop} {B S nb : Nat} {tm : Nat → Nat}
theorem zmo_snoc {A : List Nat} {s : Nat} : zmo tm B (A ++ [s]) = if A.length = 0 then nI (B + s) else nI (B + (if tm (zfr tm A.tail (A.headD 0)) < tm s then s else zfr tm A.tail (A.headD 0))) := by
  unfold zmo
  rw [if_neg (by rw [List.length_append, List.length_singleton]; omega)]
  cases A with
  | nil => rfl
  | cons a A =>
    rw [if_neg (by rw [List.length_cons]; omega)]
    show nI (B + zfr tm (A ++ [s]) a) = _
    rw [zfr_app (f := 0)] <;> rfl
theorem zsb_4 : ∀ n : Fin 5, ∀ b : Bool, ¬ n.val = 0 → zsb n.val b = if n.val = 1 then 0 else if n.val = 2 then 1 else if n.val = 3 then (if b = true then 1 else 2) else 2 := by decide
set_option maxHeartbeats 2000000 in
theorem m_weigh {m : zM} (hBS : B + S ≤ 1024) (hS0 : 0 < S) (htm : ∀ s, s < S → m 72 (B + s) = nI (tm s)) (htb : ∀ s, tm s ≤ 48) (hsum : ztot tm (zlst tm S) ≤ 48)
    (hQ : ∀ m', zFg B S m m' → (∀ s, s < S → s ∈ zL0 tm S → m' 73 (B + s) = nI (zcw tm S s)) → (∀ s, s < S → s ∉ zL0 tm S → m' 73 (B + s) = -1) → Q (some (.inl (nI (zlst tm S).length))) m') :
    zR κ (d + 1) Y_Mo_weigh 0 [some (.inr 68), some (.inl (nI B)), some (.inl (nI S)), none, none, none, none] [] m Q := by
  have hlen : (zlst tm S).length ≤ 48 := Nat.le_trans (ztot_pos (fun s hs => (zlst_mem.mp hs).2)) hsum
  refine w_Mo_weigh_0 ?_
  -- the widths, and the end
  have k107 : ∀ (r s : Nat) (m1 : zM), s + r = S → zFg B S m m1 → (∀ x, x < S → ¬ 0 < tm x → m1 73 (B + x) = -1) → (∀ x, x < s → 0 < tm x → m1 73 (B + x) = nI (if (zlst tm S).length = 1 then 0 else if (zlst tm S).length = 2 then 1 else if (zlst tm S).length = 3 then (if x = zfr tm (zlst tm S).tail ((zlst tm S).headD 0) then 1 else 2) else 2)) →
      zR κ (d + 1) Y_Mo_weigh 107 [some (.inr 68), some (.inl (nI B)), some (.inl (nI S)), some (.inl (nI (zlst tm S).length)), some (.inl (nI (ztot tm (zlst tm S)))), some (.inl (zmo tm B (zlst tm S))), some (.inl (nI (B + s)))] [] m1 Q := by
    intro r
    induction r with
    | zero =>
      intro s m1 hs hF hn hb
      have es : s = S := by omega
      subst es
      have fin : ∀ s2 : Int32, (¬ (zlst tm s).length = 0 → s2 = m1 73 B) → ((zlst tm s).length = 0 → s2 = 0) → zR κ (d + 1) Y_Mo_weigh 188 [some (.inr 68), some (.inl (nI B)), some (.inl (nI s)), some (.inl (nI (zlst tm s).length)), some (.inl (nI (ztot tm (zlst tm s)))), some (.inl (zmo tm B (zlst tm s))), some (.inl (nI (B + s)))] [.inl s2, .inl (nI B), .inr 73] m1 Q := by
        intro s2 h1 h2
        refine w_Mo_weigh_188 ?_
        rw [nI_clamp (by omega)]
        have hF2 : zFg B s m (zms m1 73 B s2) := hF.tr (zFg_s (s := 0) hS0)
        refine ⟨vp_in_nI (by omega) (by decide), fun z => ?_, fun z => ?_⟩
        · have z := (nI_ltI (by omega) (by decide)).mp (show nI (zlst tm s).length < nI 5 from z)
          by_cases h0 : (zlst tm s).length = 0
          · have e0 : zL0 tm s = [0] := if_pos h0
            have hnil : ∀ x, x < s → ¬ 0 < tm x := fun x hx hp => by
              have := zlst_mem.mpr ⟨hx, hp⟩
              rw [List.length_eq_zero_iff.mp h0] at this
              cases this
            refine hQ _ hF2 (fun x hx hxm => ?_) (fun x hx hxm => ?_)
            · rw [e0, List.mem_singleton] at hxm
              subst hxm
              rw [Nat.add_zero, zms_ss, h2 h0]
              unfold zcw
              rw [if_pos (by omega), if_pos (by rw [e0]; exact List.mem_singleton.mpr rfl), e0] <;> rfl
            · rw [e0, List.mem_singleton] at hxm
              rw [zms_nk (by omega)]
              exact hn x hx (hnil x hx)
          · have eA : zL0 tm s = zlst tm s := if_neg h0
            rw [h1 h0, zms_self rfl]
            refine hQ m1 hF (fun x hx hxm => ?_) (fun x hx hxm => ?_)
            · rw [eA] at hxm
              have hxt := (zlst_mem.mp hxm).2
              have ec : zcw tm s x = if (zlst tm s).length = 1 then 0 else if (zlst tm s).length = 2 then 1 else if (zlst tm s).length = 3 then (if x = zfr tm (zlst tm s).tail ((zlst tm s).headD 0) then 1 else 2) else 2 := by
                unfold zcw
                rw [if_pos (show (zlst tm s).length ≤ 4 by omega)]
                show (if x ∈ zL0 tm s then zsb (zL0 tm s).length (decide (x = zfr tm (zL0 tm s).tail ((zL0 tm s).headD 0))) else 0) = _
                rw [eA, if_pos hxm, zsb_4 ⟨(zlst tm s).length, by omega⟩ _ h0]
                simp only [decide_eq_true_eq]
              rw [hb x hx hxt, ec]
            · rw [eA] at hxm
              exact hn x hx (fun hp => hxm (zlst_mem.mpr ⟨hx, hp⟩))
        · have z : 5 ≤ (zlst tm s).length := by
            rcases Nat.lt_or_ge (zlst tm s).length 5 with g | g
            · exact absurd (show nI (zlst tm s).length < nI 5 from nI_lt g (by decide)) z
            · exact g
          have eA : zL0 tm s = zlst tm s := if_neg (by omega)
          have ec : zcw tm s = (zit (zlst tm s) 384 (zw0 tm (zlst tm s)) (zsp0 tm (zlst tm s))).1 := by
            unfold zcw
            rw [if_neg (by omega)]
          rw [h1 (by omega), zms_self rfl]
          refine m_share hBS (fun x hx => by rw [hF.1 72 (by decide)]; exact htm x hx) htb hsum hn (fun m3 g1 g2 g3 => ⟨rfl, hQ m3 (hF.tr g1) (fun x hx hxm => ?_) (fun x hx hxm => ?_)⟩)
          · rw [eA] at hxm
            rw [ec]
            exact g2 x hx (zlst_mem.mp hxm).2
          · rw [eA] at hxm
            exact g3 x hx (fun hp => hxm (zlst_mem.mpr ⟨hx, hp⟩))
      refine w_Mo_weigh_107 ⟨fun _ => ⟨fun z => ⟨vp_in_nI (by omega) (by decide), ?_⟩, fun z => ?_⟩, fun z => ?_⟩
      · rw [nI_clamp (by omega)]
        exact fin _ (fun _ => rfl) (fun w => absurd (by rw [w]; rfl) z)
      · exact fin 0 (fun w => absurd ((nI_eq (by omega) (by decide)).mp z) w) (fun _ => rfl)
      · rw [nI_add] at z
        exact absurd (Int32.le_refl _) z
    | succ r ih =>
      intro s m1 hs hF hn hb
      have hsS : s < S := by omega
      have e72 : m1 72 (B + s) = nI (tm s) := by rw [hF.1 72 (by decide)]; exact htm s hsS
      have htbs := htb s
      have eB : nI (B + s) + 1 = nI (B + (s + 1)) := nI_1 _
      have hin : vp_in (nI (B + s)) 1024 := vp_in_nI (by omega) (by decide)
      refine w_Mo_weigh_107 ⟨fun z => ?_, fun _ => ?_⟩
      · rw [nI_add] at z
        exact absurd z (nI_ge (by omega) (by omega))
      rw [nI_clamp (by omega), e72, eB]
      refine ⟨hin, fun z => ?_, fun z => ?_⟩
      · have z := (nI_leI (by omega) (by decide)).mp (show nI (tm s) ≤ nI 0 from z)
        refine ih (s + 1) m1 (by omega) hF hn (fun x hx hxt => hb x ?_ hxt)
        rcases Nat.lt_or_ge x s with g | g
        · exact g
        · have : x = s := by omega
          subst this
          omega
      · have z : 0 < tm s := by
          rcases Nat.eq_zero_or_pos (tm s) with g | g
          · exact absurd (show nI (tm s) ≤ nI 0 from by rw [g]; exact Int32.le_refl _) z
          · exact g
        have hsin : s ∈ zlst tm S := zlst_mem.mpr ⟨hsS, z⟩
        have hne : ¬ (zlst tm S).length = 0 := fun g => by
          rw [List.length_eq_zero_iff.mp g] at hsin
          cases hsin
        have next : ∀ v : Nat, v = (if (zlst tm S).length = 1 then 0 else if (zlst tm S).length = 2 then 1 else if (zlst tm S).length = 3 then (if s = zfr tm (zlst tm S).tail ((zlst tm S).headD 0) then 1 else 2) else 2) → zR κ (d + 1) Y_Mo_weigh 107 [some (.inr 68), some (.inl (nI B)), some (.inl (nI S)), some (.inl (nI (zlst tm S).length)), some (.inl (nI (ztot tm (zlst tm S)))), some (.inl (zmo tm B (zlst tm S))), some (.inl (nI (B + (s + 1))))] [] (zms m1 73 (B + s) (nI v)) Q := by
          intro v hv
          refine ih (s + 1) _ (by omega) (hF.tr (zFg_s hsS)) (fun x hx hxt => ?_) (fun x hx hxt => ?_)
          · rw [zms_nk (fun g => hxt (by rw [show x = s by omega]; exact z))]
            exact hn x hx hxt
          · by_cases hxs : x = s
            · rw [hxs, zms_ss, hv]
            · rw [zms_nk (by omega)]
              exact hb x (by omega) hxt
        have hfr := (zlst_mem.mp (zfr_in (tm := tm) hne)).1
        have emo : zmo tm B (zlst tm S) = nI (B + zfr tm (zlst tm S).tail ((zlst tm S).headD 0)) := if_neg hne
        refine ⟨fun z1 => ⟨fun z2 => ⟨hin, next 1 ?_⟩, fun z2 => ⟨fun z3 => ⟨hin, next 2 ?_⟩, fun z3 => ⟨fun z4 => ⟨hin, next 2 ?_⟩, fun z4 => ⟨hin, next 1 ?_⟩⟩⟩⟩, fun z1 => ⟨hin, next 0 ?_⟩⟩
        · have z2 : (zlst tm S).length = 2 := (nI_eq (by omega) (by decide)).mp z2
          rw [if_neg (by omega), if_pos z2]
        · have z1 : ¬ (zlst tm S).length = 1 := fun g => z1 (by rw [g]; rfl)
          have z2 : ¬ (zlst tm S).length = 2 := fun g => z2 (by rw [g]; rfl)
          have z3 : ¬ (zlst tm S).length = 3 := fun g => z3 (by rw [g]; rfl)
          rw [if_neg z1, if_neg z2, if_neg z3]
        · have z3 : (zlst tm S).length = 3 := (nI_eq (by omega) (by decide)).mp z3
          rw [if_neg (by omega), if_neg (by omega), if_pos z3, if_neg (fun g => z4 (by rw [emo, ← g]))]
        · have z3 : (zlst tm S).length = 3 := (nI_eq (by omega) (by decide)).mp z3
          rw [emo] at z4
          have z4 := (nI_eq (by omega) (by omega)).mp z4
          rw [if_neg (by omega), if_neg (by omega), if_pos z3, if_pos (by omega)]
        · have z1 : (zlst tm S).length = 1 := (nI_eq (by omega) (by decide)).mp z1
          rw [if_pos z1]
  -- the counts
  have k11 : ∀ (r s : Nat) (m1 : zM), s + r = S → zFg B S m m1 → (∀ x, x < s → m1 73 (B + x) = -1) → zR κ (d + 1) Y_Mo_weigh 11 [some (.inr 68), some (.inl (nI B)), some (.inl (nI S)), some (.inl (nI (zlst tm s).length)), some (.inl (nI (ztot tm (zlst tm s)))), some (.inl (zmo tm B (zlst tm s))), some (.inl (nI (B + s)))] [] m1 Q := by
    intro r
    induction r with
    | zero =>
      intro s m1 hs hF hn
      have es : s = S := by omega
      subst es
      refine w_Mo_weigh_11 ⟨fun _ => ?_, fun z => ?_⟩
      · exact k107 s 0 m1 (by omega) hF (fun x hx _ => hn x hx) (fun x hx => absurd hx (Nat.not_lt_zero x))
      · rw [nI_add] at z
        exact absurd (Int32.le_refl _) z
    | succ r ih =>
      intro s m1 hs hF hn
      have hsS : s < S := by omega
      have e72 : m1 72 (B + s) = nI (tm s) := by rw [hF.1 72 (by decide)]; exact htm s hsS
      have htbs := htb s
      have eB : nI (B + s) + 1 = nI (B + (s + 1)) := nI_1 _
      have hin : vp_in (nI (B + s)) 1024 := vp_in_nI (by omega) (by decide)
      have hF2 : zFg B S m (zms m1 73 (B + s) (-1)) := hF.tr (zFg_s hsS)
      have hn2 : ∀ x, x < s + 1 → (zms m1 73 (B + s) (-1)) 73 (B + x) = -1 := by
        intro x hx
        by_cases hxs : x = s
        · rw [hxs, zms_ss]
        · rw [zms_nk (by omega)]
          exact hn x (by omega)
      have e72' : (zms m1 73 (B + s) (-1)) 72 (B + s) = nI (tm s) := by rw [zms_ne (by decide)]; exact e72
      have next := ih (s + 1) (zms m1 73 (B + s) (-1)) (by omega) hF2 hn2
      refine w_Mo_weigh_11 ⟨fun z => ?_, fun _ => ?_⟩
      · rw [nI_add] at z
        exact absurd z (nI_ge (by omega) (by omega))
      rw [nI_clamp (by omega), e72]
      refine ⟨hin, hin, fun z => ?_, fun z => ?_⟩
      · have z' := (nI_leI (by omega) (by decide)).mp (show nI (tm s) ≤ nI 0 from z)
        have z0 : tm s = 0 := by omega
        rw [zlst_succ, if_neg (by omega)] at next
        refine w_Mo_weigh_44 ?_
        rw [nI_clamp (by omega), e72', eB, nI_add, z0, Nat.add_zero]
        exact ⟨hin, hin, fun _ => next, fun g => absurd (show nI 0 ≤ nI 0 from Int32.le_refl _) g⟩
      · have z' : 0 < tm s := by
          rcases Nat.eq_zero_or_pos (tm s) with g | g
          · exact absurd (show nI (tm s) ≤ nI 0 from by rw [g]; exact Int32.le_refl _) z
          · exact g
        rw [zlst_succ, if_pos z', List.length_append, List.length_singleton, zmo_snoc] at next
        have et : ztot tm (zlst tm s ++ [s]) = ztot tm (zlst tm s) + tm s := by
          unfold ztot
          rw [List.map_append, List.sum_append]
          simp
        rw [et] at next
        rw [nI_1]
        refine w_Mo_weigh_44 ?_
        rw [nI_clamp (by omega), e72', eB, nI_add]
        refine ⟨hin, hin, fun g => absurd g z, fun _ => ⟨fun g => ?_, fun g => ?_⟩⟩
        · by_cases h0 : (zlst tm s).length = 0
          · rw [if_pos h0] at next
            exact next
          · have hfr := (zlst_mem.mp (zfr_in (tm := tm) h0)).1
            unfold zmo at g
            rw [if_neg h0] at g
            exact absurd g (nI_pos (by omega))
        · by_cases h0 : (zlst tm s).length = 0
          · unfold zmo at g
            rw [if_pos h0] at g
            exact absurd (by decide) g
          · have hfr := (zlst_mem.mp (zfr_in (tm := tm) h0)).1
            rw [if_neg h0] at next
            have emo : zmo tm B (zlst tm s) = nI (B + zfr tm (zlst tm s).tail ((zlst tm s).headD 0)) := if_neg h0
            have hbf := htb (zfr tm (zlst tm s).tail ((zlst tm s).headD 0))
            have e72f : (zms m1 73 (B + s) (-1)) 72 (B + zfr tm (zlst tm s).tail ((zlst tm s).headD 0)) = nI (tm (zfr tm (zlst tm s).tail ((zlst tm s).headD 0))) := by
              rw [zms_ne (by decide), hF.1 72 (by decide)]
              exact htm _ (by omega)
            rw [emo, nI_clamp (by omega), e72f]
            refine ⟨hin, vp_in_nI (by omega) (by decide), fun g2 => ?_, fun g2 => ?_⟩
            · have g2 := (nI_leI (by omega) (by omega)).mp g2
              rw [if_neg (by omega)] at next
              exact next
            · have g2 : ¬ tm s ≤ tm (zfr tm (zlst tm s).tail ((zlst tm s).headD 0)) := fun w => g2 (nI_le w (by omega))
              rw [if_pos (by omega)] at next
              exact next
  have := k11 S 0 m (by omega) ⟨fun _ _ => rfl, fun _ _ => rfl⟩ (fun x hx => absurd hx (Nat.not_lt_zero x))
  exact this
end zMweigh
