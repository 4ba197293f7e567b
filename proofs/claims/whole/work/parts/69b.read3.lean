/-! the class reads a description by bits, and a whole description -/
section zRead3
variable {κ : zK} {d : Nat} {Q : Option zV → zM → Prop} {c S : Nat}
theorem z64_shr {b : Nat} (hb : b < 32) : (64 : Int32) >>> (nI b &&& 31) = nI (64 / 2 ^ b) := pk_shrN (n := 64) (by decide) (nI b &&& 31) b (zs_l b hb)
set_option maxHeartbeats 1000000 in
theorem s_readFull_loop {f : Nat → Int32} {sz : Nat} {tot : Option (List (Nat × Nat) × Nat)} {m0 : zM} (hc : is_Code c S) (hc11 : 11 ≤ c) (hS : S ≤ 256) (h0 : m0 c 0 = nI S)
    (hQ : ∀ (y : Int32) (m' : zM) (l' : List (Nat × Nat)) (P' : Nat) (ov' : Bool), (y = 0 ∨ y = 1) → zS f sz P' ov' m' → zRaw c S m' l' → zFc c m0 m' → (y = 1 → ov' = false → tot = some (l', P')) → (y = 0 ∨ ov' = true → tot = none) → Q (some (.inl y)) m') :
    ∀ (u sp sy P : Nat) (ov : Bool) (m : zM) (l : List (Nat × Nat)), S ≤ sy + u → sy ≤ 300 → l.length + sp ≤ 64 → (∀ p ∈ l, p.1 < sy) → zS f sz P ov m → zRaw c S m l → zFc c m0 m → (ov = false → tot = zrdFull f (8 * sz) S (u + 1) sp sy P l) → (ov = true → tot = none) → zR κ (d + 1) Y_Code_readBitNumbers 5 [some (.inr c), some (.inr 3), some (.inl (nI sp)), some (.inl (nI sy)), none] [] m Q := by
  have hexit : ∀ (u sp sy P : Nat) (ov : Bool) (m : zM) (l : List (Nat × Nat)), (S ≤ sy ∨ sp = 0) → sp ≤ 64 → zS f sz P ov m → zRaw c S m l → zFc c m0 m → (ov = false → tot = zrdFull f (8 * sz) S (u + 1) sp sy P l) → (ov = true → tot = none) → ((¬ nI sp = 0 → Q (some (.inl 0)) m) ∧ (nI sp = 0 → Q (some (.inl 1)) m)) := by
    intro u sp sy P ov m l hx h64 hs hr hf ht1 ht2
    refine ⟨fun q => ?_, fun q => ?_⟩
    · have hsp : ¬ sp = 0 := fun e => q (by rw [e]; rfl)
      refine hQ 0 m l P ov (Or.inl rfl) hs hr hf (fun e => absurd e (by decide)) (fun _ => ?_)
      cases ov with
      | true => exact ht2 rfl
      | false => rw [ht1 rfl, zrdFull, if_pos hx, if_neg hsp]
    · have hsp : sp = 0 := (nI_eq (a := sp) (b := 0) (by omega) (by decide)).mp q
      refine hQ 1 m l P ov (Or.inr rfl) hs hr hf (fun _ e => ?_) (fun e => ?_)
      · rw [ht1 e, zrdFull, if_pos hx, if_pos hsp]
      · rcases e with e | e
        · exact absurd e (by decide)
        · exact ht2 e
  intro u
  induction u with
  | zero =>
    intro sp sy P ov m l hu h300 h64 hlt hs hr hf ht1 ht2
    refine w_Code_readBitNumbers_5 hc ⟨fun _ => hexit 0 sp sy P ov m l (Or.inl (by omega)) (by omega) hs hr hf ht1 ht2, fun q => absurd (by rw [hf.2 0 (by decide), h0]; exact nI_le (by omega) (by omega)) q⟩
  | succ u ih =>
    intro sp sy P ov m l hu h300 h64 hlt hs hr hf ht1 ht2
    refine w_Code_readBitNumbers_5 hc ⟨fun q => hexit (u + 1) sp sy P ov m l (Or.inl ?_) (by omega) hs hr hf ht1 ht2, fun q => ⟨fun q1 => hexit (u + 1) sp sy P ov m l (Or.inr ?_) (by omega) hs hr hf ht1 ht2, fun q1 => ?_⟩⟩
    · rw [hf.2 0 (by decide), h0] at q
      exact (nI_leI (by omega) (by omega)).mp q
    · rcases Nat.eq_zero_or_pos sp with z | z
      · exact z
      · exact absurd q1 (nI_nle z (by omega))
    · have hsy : sy < S := by
        rw [hf.2 0 (by decide), h0] at q
        rcases Nat.lt_or_ge sy S with z | z
        · exact z
        · exact absurd (nI_le z (by omega)) q
      have hsp : 0 < sp := by
        rcases Nat.eq_zero_or_pos sp with z | z
        · exact absurd (by rw [z]; decide) q1
        · exact z
      have hx : ¬ (S ≤ sy ∨ sp = 0) := by omega
      refine r_take (n := 3) (by decide) hs (fun b P1 ov1 m1 hv hs1 hf1 htk => ⟨nI b, rfl, ?_⟩)
      have hb8 : b < 8 := hv
      have hr1 : zRaw c S m1 l := zRaw_of (hf1 c (by omega)) (hf1 (c + 1) (by omega)) (hf1 (c + 3) (by omega)) hr
      have hF1 : zFc c m0 m1 := hf.tr (zFc_3 hc11 hf1)
      -- what the whole is, after these three bits
      have hstep : ∀ X : Option (List (Nat × Nat) × Nat), (ov1 = false → (if b = 7 then (match zrd f (8 * sz) P1 4 with | none => none | some (v, P2) => zrdFull f (8 * sz) S (u + 1) sp (sy + (v + 3)) P2 l) else if b = 0 then zrdFull f (8 * sz) S (u + 1) sp (sy + 1) P1 l else if sp < 64 / 2 ^ b then none else zrdFull f (8 * sz) S (u + 1) (sp - 64 / 2 ^ b) (sy + 1) P1 (l ++ [(sy, b)])) = X) → (ov1 = true → X = none) → tot = X := by
        intro X hX hX2
        cases ov with
        | true => rw [ht2 rfl, hX2 (htk.1 rfl)]
        | false =>
          rw [ht1 rfl, zrdFull, if_neg hx]
          rcases htk.2 rfl with ⟨e1, e2⟩ | ⟨e1, e2⟩
          · rw [e1]; exact hX e2
          · rw [e1, hX2 e2]
      refine ⟨fun q2 => ⟨fun q3 => ?_, fun q3 => ⟨fun q4 => ?_, fun q4 => ?_⟩⟩, fun q2 => ?_⟩
      · have hb0 : b = 0 := by
          rcases Nat.eq_zero_or_pos b with z | z
          · exact z
          · exact absurd q3 (nI_nle z (by omega))
        rw [nI_1]
        refine ih sp (sy + 1) P1 ov1 m1 l (by omega) (by omega) h64 (fun p hp => Nat.lt_succ_of_lt (hlt p hp)) hs1 hr1 hF1 (fun e => hstep _ (fun _ => ?_) (fun e2 => by rw [e2] at e; cases e)) (fun e => hstep none (fun e2 => by rw [e2] at e; cases e) (fun _ => rfl))
        rw [if_neg (by omega), if_pos hb0]
      · have hb7 : ¬ b = 7 := fun e => q2 (by rw [e]; rfl)
        have hb0 : ¬ b = 0 := fun e => q3 (by rw [e]; decide)
        rw [z64_shr (by omega)] at q4
        have hle : 64 / 2 ^ b ≤ sp := by
          rcases Nat.lt_or_ge sp (64 / 2 ^ b) with z | z
          · have hk : 64 / 2 ^ b ≤ 64 := Nat.div_le_self _ _
            have := pk_sneg (a := sp) (b := 64 / 2 ^ b) (by omega) z
            exact absurd q4 (Int32.not_le.mpr this)
          · exact z
        have hpos : 1 ≤ 64 / 2 ^ b := by
          rcases (show b = 1 ∨ b = 2 ∨ b = 3 ∨ b = 4 ∨ b = 5 ∨ b = 6 by omega) with rfl | rfl | rfl | rfl | rfl | rfl <;> decide
        rw [z64_shr (by omega), pk_sub hle]
        have hns : sy ∉ l.map Prod.fst := by
          intro z
          obtain ⟨p, hp, e⟩ := List.mem_map.mp z
          have := hlt p hp
          omega
        refine s_list (x := nI b) hc hS hr1.1 (by rw [List.length_map]; omega) hsy (fun m2 g1 g2 g3 g4 g5 => ⟨rfl, ?_⟩)
        rw [nI_1]
        refine ih (sp - 64 / 2 ^ b) (sy + 1) P1 ov1 m2 (l ++ [(sy, b)]) (by omega) (by omega) (by rw [List.length_append, List.length_singleton]; omega) (fun p hp => ?_) (zS_of hs1 (g1 3 (by omega) (by omega) (by omega)) (g1 4 (by omega) (by omega) (by omega))) (zRaw_add hr1 hns (by omega) g3 g4 g5) (hF1.tr ⟨fun q _ a b e => g1 q a b e, g2⟩) (fun e => hstep _ (fun _ => ?_) (fun e2 => by rw [e2] at e; cases e)) (fun e => hstep none (fun e2 => by rw [e2] at e; cases e) (fun _ => rfl))
        · rcases List.mem_append.mp hp with z | z
          · exact Nat.lt_succ_of_lt (hlt p z)
          · rw [List.mem_singleton.mp z]; exact Nat.lt_succ_self sy
        · rw [if_neg hb7, if_neg hb0, if_neg (by omega)]
      · have hb7 : ¬ b = 7 := fun e => q2 (by rw [e]; rfl)
        have hb0 : ¬ b = 0 := fun e => q3 (by rw [e]; decide)
        rw [z64_shr (by omega)] at q4
        have hgt : sp < 64 / 2 ^ b := by
          rcases Nat.lt_or_ge sp (64 / 2 ^ b) with z | z
          · exact z
          · rw [pk_sub z] at q4
            exact absurd (nI_pos' (Nat.lt_of_le_of_lt (Nat.sub_le _ _) (by omega))) q4
        refine hQ 0 m1 l P1 ov1 (Or.inl rfl) hs1 hr1 hF1 (fun e => absurd e (by decide)) (fun _ => hstep none (fun _ => ?_) (fun _ => rfl))
        rw [if_neg hb7, if_neg hb0, if_pos hgt]
      · have hb7 : b = 7 := (nI_eq (a := b) (b := 7) (by omega) (by decide)).mp q2
        refine r_take (n := 4) (by decide) hs1 (fun v P2 ov2 m2 hv2 hs2 hf2 htk2 => ⟨nI v, rfl, ?_⟩)
        have hv16 : v < 16 := hv2
        rw [show nI sy + (nI v + 3) = nI (sy + (v + 3)) by rw [show (3 : Int32) = nI 3 from rfl, nI_add, nI_add]]
        have hr2 : zRaw c S m2 l := zRaw_of (hf2 c (by omega)) (hf2 (c + 1) (by omega)) (hf2 (c + 3) (by omega)) hr1
        have hF2 : zFc c m0 m2 := hF1.tr (zFc_3 hc11 hf2)
        refine ih sp (sy + (v + 3)) P2 ov2 m2 l (by omega) (by omega) h64 (fun p hp => by have := hlt p hp; omega) hs2 hr2 hF2 (fun e => hstep _ (fun e1 => ?_) (fun e1 => ?_)) (fun e => hstep none (fun e1 => ?_) (fun _ => rfl))
        · rw [if_pos hb7]
          rcases htk2.2 e1 with ⟨z1, -⟩ | ⟨-, z2⟩
          · rw [z1]
          · rw [z2] at e; cases e
        · rw [htk2.1 e1] at e; cases e
        · rw [if_pos hb7]
          rcases htk2.2 e1 with ⟨-, z2⟩ | ⟨z1, -⟩
          · rw [z2] at e; cases e
          · rw [z1]
/-- the class's code object, ready: sorted, with its code words -/
def zRdy (c n : Nat) (m : zM) (l : List (Nat × Nat)) (L : List Nat) : Prop := zLst c n m L ∧ L.Perm (l.map Prod.fst) ∧ (l.map Prod.fst).Nodup ∧ (∀ p ∈ l, m (c + 3) p.1 = nI p.2 ∧ p.2 ≤ 6) ∧ L.Pairwise (fun a b => zrk (fun s => (m (c + 3) s).toNatClampNeg) a < zrk (fun s => (m (c + 3) s).toNatClampNeg) b) ∧ ∀ k, k < L.length → m (c + 4) (L.getD k 0) = zwI (m (c + 3)) L k
def zFd (c : Nat) (m m' : zM) : Prop := (∀ q, q ≠ 3 → q ≠ c → q ≠ c + 1 → q ≠ c + 3 → q ≠ c + 4 → m' q = m q) ∧ ∀ k, k ≠ 6 → m' c k = m c k
theorem zFd.rf {m : zM} : zFd c m m := ⟨fun _ _ _ _ _ _ => rfl, fun _ _ => rfl⟩
theorem zFd.tr {m m' m'' : zM} (h : zFd c m m') (h' : zFd c m' m'') : zFd c m m'' := ⟨fun q a b x y z => (h'.1 q a b x y z).trans (h.1 q a b x y z), fun k a => (h'.2 k a).trans (h.2 k a)⟩
theorem zFc.fd {m m' : zM} (h : zFc c m m') : zFd c m m' := ⟨fun q a b x y _ => h.1 q a b x y, h.2⟩
set_option maxHeartbeats 1000000 in
theorem s_readDescription {f : Nat → Int32} {sz nb P : Nat} {m : zM} (hc : is_Code c S) (hc11 : 11 ≤ c) (hS : S ≤ 256) (hnb : nb ≤ 8) (hcd : zCode c S nb m) (hs : zS f sz P false m)
    (h1 : ∀ (m' : zM) (l : List (Nat × Nat)) (L : List Nat) (P' : Nat), zrdCode f (8 * sz) S nb P = some (l, P') → zS f sz P' false m' → zRdy c S m' l L → zFd c m m' → Q (some (.inl 1)) m')
    (h2 : ∀ (m' : zM) (P' : Nat) (ov' : Bool), zrdCode f (8 * sz) S nb P = none → zS f sz P' ov' m' → zCode c S nb m' → zFd c m m' → Q (some (.inl 0)) m') :
    zR κ (d + 2) Y_Code_readDescription 0 [some (.inr c), some (.inr 3), none, none] [] m Q := by
  obtain ⟨c0, c1, l0, hl0⟩ := hcd
  refine w_Code_readDescription_0 hc (s_forgetListed hc hS hl0 (fun m1 a1 a2 a3 a4 => ⟨rfl, ?_⟩))
  have hs1 : zS f sz P false m1 := zS_of hs (a1 3 (by omega) (by omega)) (a1 4 (by omega) (by omega))
  have hr1 : zRaw c S m1 [] := ⟨⟨by decide, fun s h => absurd h List.not_mem_nil, by rw [a3]; rfl, fun k h => absurd h (Nat.not_lt_zero k), fun s h _ => a4 s h⟩, List.nodup_nil, fun p h => absurd h List.not_mem_nil⟩
  have hF1 : zFc c m m1 := ⟨fun q _ b _ e => a1 q b e, a2⟩
  refine r_take (n := 1) (by decide) hs1 (fun v P1 ov1 m2 hv hs2 hf2 htk => ⟨nI v, rfl, ?_⟩)
  have hv2 : v < 2 := hv
  have hr2 : zRaw c S m2 [] := zRaw_of (hf2 c (by omega)) (hf2 (c + 1) (by omega)) (hf2 (c + 3) (by omega)) hr1
  have hF2 : zFc c m m2 := hF1.tr (zFc_3 hc11 hf2)
  have e0 : m2 c 0 = nI S := by rw [hF2.2 0 (by decide)]; exact c0
  have e1 : m2 c 1 = nI nb := by rw [hF2.2 1 (by decide)]; exact c1
  -- the end: what is listed is sorted, the words are given
  have hend : ∀ (y x : Int32) (m3 : zM) (l : List (Nat × Nat)) (P3 : Nat) (ov3 : Bool), (y = 0 ∨ y = 1) → zS f sz P3 ov3 m3 → zRaw c S m3 l → zFc c m m3 → (y = 1 → ov3 = false → zrdCode f (8 * sz) S nb P = some (l, P3)) → (y = 0 ∨ ov3 = true → zrdCode f (8 * sz) S nb P = none) → zR κ (d + 1 + 1) Y_Code_readDescription 36 [some (.inr c), some (.inr 3), some (.inl x), none] [.inl y] m3 Q := by
    intro y x m3 l P3 ov3 hy hs3 hr3 hF3 ht1 ht2
    have hcode3 : zCode c S nb m3 := ⟨by rw [hF3.2 0 (by decide)]; exact c0, by rw [hF3.2 1 (by decide)]; exact c1, _, hr3.1⟩
    refine w_Code_readDescription_36 hc ⟨fun q => h2 m3 P3 ov3 (ht2 (Or.inl q)) hs3 hcode3 hF3.fd, fun q => ⟨fun q1 => ?_, fun q1 => ?_⟩⟩
    · have hov : ov3 = false := by
        cases ov3 with
        | false => rfl
        | true => have := hs3.2.2.2.2.2.2; rw [this] at q1; exact absurd q1 (by decide)
      have hy1 : y = 1 := hy.resolve_left q
      subst hov
      have hb : ∀ t, t < S → m3 (c + 3) t = nI (m3 (c + 3) t).toNatClampNeg ∧ (m3 (c + 3) t).toNatClampNeg ≤ 6 := by
        intro t ht
        by_cases hin : t ∈ l.map Prod.fst
        · obtain ⟨p, hp, e⟩ := List.mem_map.mp hin
          obtain ⟨z1, z2⟩ := hr3.2.2 p hp
          rw [← e, z1, nI_clamp (by omega)]
          exact ⟨rfl, z2⟩
        · rw [hr3.1.2.2.2.2 t ht hin]
          exact ⟨by decide, by decide⟩
      refine s_sortListed (bw := fun t => (m3 (c + 3) t).toNatClampNeg) hc hS hr3.1 hr3.2.1 (fun t ht => (hb t ht).2) (fun t ht => (hb t ht).1) (fun L m4 p1 p2 p3 p4 => ⟨rfl, ?_⟩)
      have hnd : L.Nodup := p1.nodup_iff.mpr hr3.2.1
      refine s_giveCodeWords hc hS p3 hnd (fun m5 w1 w2 => ⟨rfl, ?_⟩)
      have e3 : m5 (c + 3) = m3 (c + 3) := by rw [w1 (c + 3) (by omega), p4 (c + 3) (by omega)]
      refine h1 m5 l L P3 (ht1 hy1 rfl) (zS_of hs3 (by rw [w1 3 (by omega), p4 3 (by omega)]) (by rw [w1 4 (by omega), p4 4 (by omega)])) ⟨zLst_of (w1 c (by omega)) (w1 (c + 1) (by omega)) (w1 (c + 3) (by omega)) p3, p1, hr3.2.1, fun p hp => by rw [e3]; exact hr3.2.2 p hp, by rw [e3]; exact p2, fun k hk => ?_⟩ (hF3.fd.tr ⟨fun q _ _ b _ x => by rw [w1 q x, p4 q b], fun k _ => by rw [w1 c (by omega), p4 c (by omega)]⟩)
      rw [w2 k hk, e3, p4 (c + 3) (by omega)]
    · have hov : ov3 = true := by
        cases ov3 with
        | true => rfl
        | false => have := hs3.2.2.2.2.2.2; rw [this] at q1; exact absurd rfl q1
      exact h2 m3 P3 ov3 (ht2 (Or.inr hov)) hs3 hcode3 hF3.fd
  refine ⟨fun q => ?_, fun q => ?_⟩
  · have hv0 : ¬ v = 1 := fun e => q (by rw [e]; rfl)
    refine w_Code_readDescription_18 hc ⟨fun _ => w_Code_readBitNumbers_0 hc ?_, fun q => absurd rfl q⟩
    refine s_readFull_loop (m0 := m2) (tot := zrdCode f (8 * sz) S nb P) hc hc11 hS e0 (fun y m' l' P' ov' b1 b2 b3 b4 b5 b6 => ⟨y, rfl, hend y 0 m' l' P' ov' b1 b2 b3 (hF2.tr b4) b5 b6⟩) S 64 0 P1 ov1 m2 [] (by omega) (by omega) (by decide) (fun p h => absurd h List.not_mem_nil) hs2 hr2 zFc.rf (fun e => ?_) (fun e => ?_)
    · unfold zrdCode
      rcases htk.2 rfl with ⟨z1, -⟩ | ⟨-, z2⟩
      · rw [z1]
        simp only
        rw [if_neg hv0]
      · rw [z2] at e; cases e
    · unfold zrdCode
      rcases htk.2 rfl with ⟨-, z2⟩ | ⟨z1, -⟩
      · rw [z2] at e; cases e
      · rw [z1]
  · have hv1 : v = 1 := (nI_eq (a := v) (b := 1) (by omega) (by decide)).mp q
    refine w_Code_readDescription_18 hc ⟨fun q => absurd q (by decide), fun _ => ?_⟩
    refine s_readSimple hc hc11 hS hnb e0 e1 hs2 hr2 (fun y m' l' P' ov' b1 b2 b3 b4 b5 b6 => ⟨y, rfl, hend y 1 m' l' P' ov' b1 b2 b3 (hF2.tr b4) (fun z1 z2 => ?_) (fun z1 => ?_)⟩)
    · obtain ⟨y1, y2⟩ := b5 z1 z2
      unfold zrdCode
      rcases htk.2 rfl with ⟨x1, -⟩ | ⟨-, x2⟩
      · rw [x1]
        simp only
        rw [if_pos hv1]
        exact y2
      · rw [x2] at y1; cases y1
    · have h9 := b6 z1
      unfold zrdCode
      rcases htk.2 rfl with ⟨x1, x2⟩ | ⟨x1, -⟩
      · rw [x1]
        simp only
        rw [if_pos hv1]
        rcases h9 with h9 | h9
        · rw [x2] at h9; cases h9
        · exact h9
      · rw [x1]
end zRead3
