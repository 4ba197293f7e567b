/-! the reference makes a code from its counts -/
section zMmake
variable {κ : zK} {d : Nat} {Q : Option zV → zM → Prop} {B S nb : Nat} {tm : Nat → Nat}
/-- the symbols that came, from s on -/
def zlr (tm : Nat → Nat) : Nat → Nat → List Nat
  | 0, _ => []
  | r + 1, s => if 0 < tm s then s :: zlr tm r (s + 1) else zlr tm r (s + 1)
theorem zlst_split : ∀ (r s : Nat), zlst tm (s + r) = zlst tm s ++ zlr tm r s := by
  intro r
  induction r with
  | zero => intro s; simp [zlr]
  | succ r ih =>
    intro s
    rw [show s + (r + 1) = (s + 1) + r by omega, ih (s + 1), zlst_succ, zlr]
    by_cases h : 0 < tm s
    · rw [if_pos h, if_pos h]
      simp
    · rw [if_neg h, if_neg h]
theorem zlst_r : zlst tm S = zlr tm S 0 := by
  have h := zlst_split (tm := tm) S 0
  rw [Nat.zero_add] at h
  rw [h] <;> rfl
theorem zfr_app {f a : Nat} : ∀ (A : List Nat) (f : Nat), zfr tm (A ++ [a]) f = if tm (zfr tm A f) < tm a then a else zfr tm A f := by
  intro A
  induction A with
  | nil => intro f; rfl
  | cons b A ih =>
    intro f
    show (if tm f < tm b then zfr tm (A ++ [a]) b else zfr tm (A ++ [a]) f) = _
    rw [ih, ih]
    show _ = if tm (if tm f < tm b then zfr tm A b else zfr tm A f) < tm a then a else (if tm f < tm b then zfr tm A b else zfr tm A f)
    split <;> rfl
/-- the front symbol so far -/
def zmo (tm : Nat → Nat) (B : Nat) (A : List Nat) : Int32 := if A.length = 0 then -1 else nI (B + zfr tm A.tail (A.headD 0))
theorem zfr_mem : ∀ (A : List Nat) (f : Nat), zfr tm A f = f ∨ zfr tm A f ∈ A := by
  intro A
  induction A with
  | nil => intro f; exact Or.inl rfl
  | cons a A ih =>
    intro f
    show (if tm f < tm a then zfr tm A a else zfr tm A f) = f ∨ (if tm f < tm a then zfr tm A a else zfr tm A f) ∈ a :: A
    split
    · rcases ih a with h | h
      · exact Or.inr (by rw [h]; exact List.mem_cons_self)
      · exact Or.inr (List.mem_cons_of_mem _ h)
    · rcases ih f with h | h
      · exact Or.inl h
      · exact Or.inr (List.mem_cons_of_mem _ h)
theorem zfr_in {A : List Nat} (h : ¬ A.length = 0) : zfr tm A.tail (A.headD 0) ∈ A := by
  cases A with
  | nil => exact absurd rfl h
  | cons a A =>
    rcases zfr_mem (tm := tm) A a with g | g
    · show zfr tm A a ∈ a :: A
      rw [g]
      exact List.mem_cons_self
    · exact List.mem_cons_of_mem _ g
/-- what is done to the widths -/
def zFg (B S : Nat) (m m' : zM) : Prop := (∀ q, q ≠ 73 → m' q = m q) ∧ ∀ i, i < B ∨ B + S ≤ i → m' 73 i = m 73 i
theorem zFg.tr {m m' m'' : zM} (h : zFg B S m m') (h' : zFg B S m' m'') : zFg B S m m'' := ⟨fun q a => (h'.1 q a).trans (h.1 q a), fun i a => (h'.2 i a).trans (h.2 i a)⟩
theorem zFg_s {m : zM} {s : Nat} {x : Int32} (hs : s < S) : zFg B S m (zms m 73 (B + s) x) := ⟨fun q hq => zms_ne hq, fun i hi => zms_nk (by omega)⟩
theorem zlr_sum {f : Nat → Nat} {s r : Nat} (hr : s + r = S) : ((zlst tm s).map f).sum + ((zlr tm r s).map f).sum = ((zlst tm S).map f).sum := by
  have h := zlst_split (tm := tm) r s
  rw [hr] at h
  rw [h, List.map_append, List.sum_append]
set_option maxHeartbeats 1000000 in
theorem m_share {m : zM} (hBS : B + S ≤ 1024) (htm : ∀ s, s < S → m 72 (B + s) = nI (tm s)) (htb : ∀ s, tm s ≤ 48) (hsum : ztot tm (zlst tm S) ≤ 48) (hw : ∀ s, s < S → ¬ 0 < tm s → m 73 (B + s) = -1)
    (hQ : ∀ m', zFg B S m m' → (∀ s, s < S → 0 < tm s → m' 73 (B + s) = nI ((zit (zlst tm S) 384 (zw0 tm (zlst tm S)) (zsp0 tm (zlst tm S))).1 s)) → (∀ s, s < S → ¬ 0 < tm s → m' 73 (B + s) = -1) → Q none m') :
    zR κ d Y_Mo_share 0 [some (.inr 68), some (.inl (nI B)), some (.inl (nI S)), some (.inl (nI (ztot tm (zlst tm S)))), none, none, none, none, none] [] m Q := by
  have hp : ∀ s ∈ zlst tm S, 0 < tm s := fun s hs => (zlst_mem.mp hs).2
  have hkr := zkraft hp (show ztot tm (zlst tm S) ≤ 64 by omega)
  have hw0 : ∀ s, zw0 tm (zlst tm S) s ≤ 6 := fun s => zw0_in.1
  refine w_Mo_share_0 ?_
  -- the rounds
  have k76 : ∀ (t k sp : Nat) (w : Nat → Nat) (m1 : zM), k + t = 400 → sp ≤ 64 → (∀ s, w s ≤ 6) → zFg B S m m1 → (∀ s, s < S → 0 < tm s → m1 73 (B + s) = nI (w s)) → (∀ s, s < S → ¬ 0 < tm s → m1 73 (B + s) = -1) → zit (zlst tm S) t w sp = zit (zlst tm S) 384 (zw0 tm (zlst tm S)) (zsp0 tm (zlst tm S)) → zR κ d Y_Mo_share 76 [some (.inr 68), some (.inl (nI B)), some (.inl (nI S)), some (.inl (nI (ztot tm (zlst tm S)))), some (.inl (nI sp)), some (.inl (nI k)), none, none, none] [] m1 Q := by
    intro t
    induction t with
    | zero =>
      intro k sp w m1 hk hsp hw6 hF hb hn hz
      have hz : (w, sp) = zit (zlst tm S) 384 (zw0 tm (zlst tm S)) (zsp0 tm (zlst tm S)) := hz
      refine w_Mo_share_76 ⟨fun _ => hQ m1 hF (by rw [← hz]; exact hb) hn, fun z => absurd (show nI 400 ≤ nI k from nI_le (by omega) (by omega)) z⟩
    | succ t ih =>
      intro k sp w m1 hk hsp hw6 hF hb hn hz
      rw [zit] at hz
      refine w_Mo_share_76 ⟨fun z => absurd z (show ¬ nI 400 ≤ nI k from nI_ge (by omega) (by decide)), fun _ => ⟨fun z => ?_, fun z => ?_⟩⟩
      · have z := (nI_leI (by omega) (by decide)).mp (show nI sp ≤ nI 0 from z)
        rw [if_pos (by omega)] at hz
        exact hQ m1 hF (by rw [← hz]; exact hb) hn
      have z : ¬ sp = 0 := fun g => z (show nI sp ≤ nI 0 from by rw [g]; exact Int32.le_refl _)
      rw [if_neg z] at hz
      have inner : ∀ (r s sp1 : Nat) (w1 : Nat → Nat) (m2 : zM), s + r = S → sp1 ≤ 64 → (∀ s, w1 s ≤ 6) → zFg B S m m2 → (∀ s, s < S → 0 < tm s → m2 73 (B + s) = nI (w1 s)) → (∀ s, s < S → ¬ 0 < tm s → m2 73 (B + s) = -1) → zrd1 (zlr tm r s) w1 sp1 = zrd1 (zlst tm S) w sp → zR κ d Y_Mo_share 92 [some (.inr 68), some (.inl (nI B)), some (.inl (nI S)), some (.inl (nI (ztot tm (zlst tm S)))), some (.inl (nI sp1)), some (.inl (nI k)), some (.inl (nI (B + s))), none, none] [] m2 Q := by
        intro r
        induction r with
        | zero =>
          intro s sp1 w1 m2 hs hsp1 hw1 hF1 hb1 hn1 hz1
          have hz1 : (w1, sp1) = zrd1 (zlst tm S) w sp := hz1
          rw [← hz1] at hz
          refine w_Mo_share_92 ⟨fun _ => ?_, fun z => ?_⟩
          · rw [nI_1]
            exact ih (k + 1) sp1 w1 m2 (by omega) hsp1 hw1 hF1 hb1 hn1 hz
          · rw [nI_add] at z
            exact absurd (nI_le (by omega) (by omega)) z
        | succ r ih2 =>
          intro s sp1 w1 m2 hs hsp1 hw1 hF1 hb1 hn1 hz1
          have hsS : s < S := by omega
          have hw6s := hw1 s
          have hd64 : 64 / 2 ^ w1 s ≤ 64 := Nat.div_le_self _ _
          have hd1 : 1 ≤ 64 / 2 ^ w1 s := by
            have : ∀ b : Fin 7, 1 ≤ 64 / 2 ^ b.val := by decide
            exact this ⟨w1 s, by omega⟩
          have eB : nI (B + s) + 1 = nI (B + (s + 1)) := nI_1 _
          refine w_Mo_share_92 ⟨fun z => ?_, fun _ => ?_⟩
          · rw [nI_add] at z
            exact absurd z (nI_ge (by omega) (by omega))
          rw [nI_clamp (by omega)]
          refine ⟨vp_in_nI (by omega) (by decide), ?_⟩
          rw [zlr] at hz1
          by_cases ht : 0 < tm s
          · rw [if_pos ht, zrd1] at hz1
            rw [hb1 s hsS ht, z64_shr (by omega)]
            refine ⟨fun z1 => ?_, fun z1 => ?_⟩
            · have z1 := (nI_leI (by omega) (by decide)).mp (show nI (w1 s) ≤ nI 1 from z1)
              rw [if_neg (by omega)] at hz1
              have hn2 := ih2 (s + 1) sp1 w1 m2 (by omega) hsp1 hw1 hF1 hb1 hn1 hz1
              refine w_Mo_share_125 ?_
              rw [eB]
              exact ⟨fun _ => hn2, fun _ => ⟨fun _ => hn2, fun z => absurd (show nI sp1 < nI 100 from nI_lt (by omega) (by decide)) z⟩⟩
            · have z1 : 1 < w1 s := by
                rcases Nat.lt_or_ge 1 (w1 s) with g | g
                · exact g
                · exact absurd (show nI (w1 s) ≤ nI 1 from nI_le g (by decide)) z1
              refine w_Mo_share_125 ?_
              rw [eB, nI_clamp (by omega)]
              refine ⟨fun z2 => ?_, fun z2 => ⟨fun z3 => ?_, fun z3 => ?_⟩⟩
              · have z2 := (nI_leI (by omega) (by decide)).mp (show nI sp1 ≤ nI 0 from z2)
                rw [if_neg (by omega)] at hz1
                exact ih2 (s + 1) sp1 w1 m2 (by omega) hsp1 hw1 hF1 hb1 hn1 hz1
              · have z3 := (nI_ltI (by omega) (by omega)).mp z3
                rw [if_neg (by omega)] at hz1
                exact ih2 (s + 1) sp1 w1 m2 (by omega) hsp1 hw1 hF1 hb1 hn1 hz1
              · have z3 : 64 / 2 ^ w1 s ≤ sp1 := by
                  rcases Nat.lt_or_ge sp1 (64 / 2 ^ w1 s) with g | g
                  · exact absurd (nI_lt g (by omega)) z3
                  · exact g
                rw [if_pos ⟨z1, z3⟩] at hz1
                have e3 : nI (w1 s) - 1 = nI (w1 s - 1) := nI_sub (b := 1) (by omega)
                rw [nI_sub z3, e3]
                refine ⟨vp_in_nI (by omega) (by decide), ih2 (s + 1) _ _ _ (by omega) (Nat.le_trans (Nat.sub_le _ _) hsp1) (fun x => ?_) (hF1.tr (zFg_s hsS)) (fun x hx hxt => ?_) (fun x hx hxt => ?_) hz1⟩
                · unfold zup
                  split
                  · omega
                  · exact hw1 x
                · unfold zup
                  by_cases hxs : x = s
                  · rw [if_pos hxs, hxs, zms_ss]
                  · rw [if_neg hxs, zms_nk (by omega)]
                    exact hb1 x hx hxt
                · rw [zms_nk (fun g => hxt (by rw [show x = s by omega]; exact ht))]
                  exact hn1 x hx hxt
          · rw [if_neg ht] at hz1
            rw [hn1 s hsS ht]
            have hn2 := ih2 (s + 1) sp1 w1 m2 (by omega) hsp1 hw1 hF1 hb1 hn1 hz1
            refine ⟨fun _ => ?_, fun z => absurd (by decide) z⟩
            refine w_Mo_share_125 ?_
            rw [eB]
            exact ⟨fun _ => hn2, fun _ => ⟨fun _ => hn2, fun z => absurd (show nI sp1 < nI 100 from nI_lt (by omega) (by decide)) z⟩⟩
      have := inner S 0 sp w m1 (by omega) hsp hw6 hF hb hn (by rw [zlst_r])
      exact this
  -- the first bits
  have k7 : ∀ (r s sp : Nat) (m1 : zM), s + r = S → sp + ((zlst tm s).map (fun x => 64 / 2 ^ zw0 tm (zlst tm S) x)).sum = 64 → zFg B S m m1 → (∀ x, x < s → 0 < tm x → m1 73 (B + x) = nI (zw0 tm (zlst tm S) x)) → (∀ x, x < S → ¬ 0 < tm x → m1 73 (B + x) = -1) → zR κ d Y_Mo_share 7 [some (.inr 68), some (.inl (nI B)), some (.inl (nI S)), some (.inl (nI (ztot tm (zlst tm S)))), some (.inl (nI sp)), some (.inl (nI (B + s))), none, none, none] [] m1 Q := by
    intro r
    induction r with
    | zero =>
      intro s sp m1 hs hsp hF hb hn
      have es : s = S := by omega
      subst es
      have esp : sp = zsp0 tm (zlst tm s) := by
        unfold zsp0
        omega
      refine w_Mo_share_7 ⟨fun _ => ?_, fun z => ?_⟩
      · rw [esp]
        exact k76 400 0 _ (zw0 tm (zlst tm s)) m1 rfl (by unfold zsp0; omega) hw0 hF hb hn (zit_400 hw0 (by unfold zsp0; omega))
      · rw [nI_add] at z
        exact absurd (Int32.le_refl _) z
    | succ r ih =>
      intro s sp m1 hs hsp hF hb hn
      have hsS : s < S := by omega
      have e72 : m1 72 (B + s) = nI (tm s) := by rw [hF.1 72 (by decide)]; exact htm s hsS
      have htbs := htb s
      have eB : nI (B + s) + 1 = nI (B + (s + 1)) := nI_1 _
      refine w_Mo_share_7 ⟨fun z => ?_, fun _ => ?_⟩
      · rw [nI_add] at z
        exact absurd z (nI_ge (by omega) (by omega))
      rw [nI_clamp (by omega), e72, eB]
      refine ⟨vp_in_nI (by omega) (by decide), fun z => ?_, fun z => ?_⟩
      · have z := (nI_leI (by omega) (by decide)).mp (show nI (tm s) ≤ nI 0 from z)
        refine ih (s + 1) sp m1 (by omega) ?_ hF (fun x hx hxt => ?_) hn
        · rw [zlst_succ, if_neg (by omega)]
          exact hsp
        · exact hb x (by
            rcases Nat.lt_or_ge x s with g | g
            · exact g
            · have : x = s := by omega
              subst this
              omega) hxt
      · have z : 0 < tm s := by
          rcases Nat.eq_zero_or_pos (tm s) with g | g
          · exact absurd (show nI (tm s) ≤ nI 0 from by rw [g]; exact Int32.le_refl _) z
          · exact g
        have hin : s ∈ zlst tm S := zlst_mem.mpr ⟨hsS, z⟩
        have ew : zw0 tm (zlst tm S) s = zfb (ztot tm (zlst tm S)) (tm s) 5 1 := if_pos hin
        have hw6 := hw0 s
        have hsm : ((zlst tm (s + 1)).map (fun x => 64 / 2 ^ zw0 tm (zlst tm S) x)).sum = ((zlst tm s).map (fun x => 64 / 2 ^ zw0 tm (zlst tm S) x)).sum + 64 / 2 ^ zw0 tm (zlst tm S) s := by
          rw [zlst_succ, if_pos z, List.map_append, List.sum_append]
          simp
        have hle : ((zlst tm (s + 1)).map (fun x => 64 / 2 ^ zw0 tm (zlst tm S) x)).sum ≤ 64 := by
          have := zlr_sum (tm := tm) (S := S) (f := fun x => 64 / 2 ^ zw0 tm (zlst tm S) x) (s := s + 1) (r := r) (by omega)
          omega
        have k28 : ∀ (rr b : Nat), b + rr = 6 → zfb (ztot tm (zlst tm S)) (tm s) rr b = zw0 tm (zlst tm S) s → zR κ d Y_Mo_share 28 [some (.inr 68), some (.inl (nI B)), some (.inl (nI S)), some (.inl (nI (ztot tm (zlst tm S)))), some (.inl (nI sp)), some (.inl (nI (B + s))), some (.inl (nI b)), none, none] [] m1 Q := by
          intro rr b hb6 hz
          have hstop : ztot tm (zlst tm S) ≤ tm s * 2 ^ b → zfb (ztot tm (zlst tm S)) (tm s) rr b = b := by
            intro h
            cases rr with
            | zero => rfl
            | succ rr => rw [zfb, if_pos h]
          have hlast : rr = 0 → ztot tm (zlst tm S) ≤ tm s * 2 ^ b := by
            intro h
            have : b = 6 := by omega
            subst this
            omega
          have hpow : tm s * 2 ^ b ≤ 48 * 64 := by
            have h2 : 2 ^ b ≤ 2 ^ 6 := Nat.pow_le_pow_right (by decide) (by omega)
            exact Nat.mul_le_mul htbs h2
          induction rr generalizing b with
          | zero =>
            refine w_Mo_share_28 ?_
            rw [nI_clamp (by omega), e72, pk_shlN _ _ (zs_l _ (by omega)) (by omega), z64_shr (by omega), eB]
            refine ⟨vp_in_nI (by omega) (by decide), fun _ => ?_, fun g => absurd (nI_le (hlast rfl) (by omega)) g⟩
            have hbe : b = zw0 tm (zlst tm S) s := by rw [← hz, hstop (hlast rfl)]
            subst hbe
            rw [nI_sub (by omega)]
            refine ⟨vp_in_nI (by omega) (by decide), ih (s + 1) _ _ (by omega) (by omega) (hF.tr (zFg_s hsS)) (fun x hx hxt => ?_) (fun x hx hxt => ?_)⟩
            · by_cases hxs : x = s
              · rw [hxs, zms_ss]
              · rw [zms_nk (by omega)]
                exact hb x (by omega) hxt
            · rw [zms_nk (fun g => hxt (by rw [show x = s by omega]; exact z))]
              exact hn x hx hxt
          | succ rr ih3 =>
            refine w_Mo_share_28 ?_
            rw [nI_clamp (by omega), e72, pk_shlN _ _ (zs_l _ (by omega)) (by omega), z64_shr (by omega), eB, nI_1]
            refine ⟨vp_in_nI (by omega) (by decide), fun g => ?_, fun g => ?_⟩
            · have g := (nI_leI (by omega) (by omega)).mp g
              have hbe : b = zw0 tm (zlst tm S) s := by rw [← hz, hstop g]
              subst hbe
              rw [nI_sub (by omega)]
              refine ⟨vp_in_nI (by omega) (by decide), ih (s + 1) _ _ (by omega) (by omega) (hF.tr (zFg_s hsS)) (fun x hx hxt => ?_) (fun x hx hxt => ?_)⟩
              · by_cases hxs : x = s
                · rw [hxs, zms_ss]
                · rw [zms_nk (by omega)]
                  exact hb x (by omega) hxt
              · rw [zms_nk (fun g => hxt (by rw [show x = s by omega]; exact z))]
                exact hn x hx hxt
            · have g : ¬ ztot tm (zlst tm S) ≤ tm s * 2 ^ b := fun w => g (nI_le w (by omega))
              have hz' : zfb (ztot tm (zlst tm S)) (tm s) rr (b + 1) = zw0 tm (zlst tm S) s := by
                rw [zfb, if_neg g] at hz
                exact hz
              refine ih3 (b + 1) (by omega) hz' (fun h => ?_) (fun h => ?_) ?_
              · cases rr with
                | zero => rfl
                | succ rr => rw [zfb, if_pos h]
              · have : b + 1 = 6 := by omega
                rw [this]
                omega
              · have h2 : 2 ^ (b + 1) ≤ 2 ^ 6 := Nat.pow_le_pow_right (by decide) (by omega)
                exact Nat.mul_le_mul htbs h2
        exact k28 5 1 rfl ew.symm
  have := k7 S 0 64 m (by omega) (by simp [zlst]) ⟨fun _ _ => rfl, fun _ _ => rfl⟩ (fun x hx => absurd hx (Nat.not_lt_zero x)) hw
  exact this
end zMmake
