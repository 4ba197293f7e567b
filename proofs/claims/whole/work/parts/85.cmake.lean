/-! the class makes a code from its counts -/
section zCmake
variable {κ : zK} {d : Nat} {Q : Option zV → zM → Prop} {c S : Nat} {tm : Nat → Nat}
theorem ztake_succ {l : List Nat} {k : Nat} (hk : k < l.length) : l.take (k + 1) = l.take k ++ [l.getD k 0] := by
  have e : l[k]? = some (l.getD k 0) := by
    rw [List.getD_eq_getElem?_getD, List.getElem?_eq_getElem hk] <;> rfl
  rw [List.take_add_one, e] <;> rfl
theorem zdrop_cons {l : List Nat} {k : Nat} (hk : k < l.length) : l.drop k = l.getD k 0 :: l.drop (k + 1) := by
  rw [List.drop_eq_getElem_cons hk, zgd_get l 0 hk]
theorem zlst_mono {s : Nat} : ∀ n, (zlst tm s).length ≤ (zlst tm (s + n)).length := by
  intro n
  induction n with
  | zero => exact Nat.le_refl _
  | succ n ih =>
    rw [show s + (n + 1) = s + n + 1 by omega, zlst_succ]
    split
    · rw [List.length_append]
      omega
    · exact ih
theorem zLst_b {n : Nat} {m m' : zM} {l : List Nat} (h0 : m' c = m c) (h1 : m' (c + 1) = m (c + 1)) (h3 : ∀ s, s ∉ l → m' (c + 3) s = m (c + 3) s) (h : zLst c n m l) : zLst c n m' l := by
  obtain ⟨a1, a2, a3, a4, a5⟩ := h
  exact ⟨a1, a2, by rw [h0]; exact a3, fun k hk => by rw [h1]; exact a4 k hk, fun s hs hn => by rw [h3 s hn]; exact a5 s hs hn⟩
/-- frame of what is done to the bits of listed symbols -/
def zFb (c : Nat) (l : List Nat) (m m' : zM) : Prop := (∀ q, q ≠ c + 3 → m' q = m q) ∧ ∀ s, s ∉ l → m' (c + 3) s = m (c + 3) s
theorem zFb.tr {l : List Nat} {m m' m'' : zM} (h : zFb c l m m') (h' : zFb c l m' m'') : zFb c l m m'' := ⟨fun q a => (h'.1 q a).trans (h.1 q a), fun s a => (h'.2 s a).trans (h.2 s a)⟩
theorem zFb.lst {n : Nat} {l : List Nat} {m m' : zM} (h : zFb c l m m') (hl : zLst c n m l) : zLst c n m' l := zLst_b (h.1 c (by omega)) (h.1 (c + 1) (by omega)) h.2 hl
theorem s_simple_bits {m : zM} {l : List Nat} (hc : is_Code c S) (hS : S ≤ 256) (hl : zLst c S m l) (hne : l ≠ []) (h4 : l.length ≤ 4) (hnd : l.Nodup) (htm : ∀ s, s < S → m (c + 2) s = nI (tm s)) (htb : ∀ s, tm s ≤ 48)
    (hQ : ∀ m', zFb c l m m' → (∀ s ∈ l, m' (c + 3) s = nI (zsb l.length (decide (s = zfr tm l.tail (l.headD 0))))) → Q none m') : zR κ (d + 1) Y_Code_chooseSimpleBits 0 [some (.inr c), none, none] [] m Q := by
  have hpos : 0 < l.length := List.length_pos_iff.mpr hne
  obtain ⟨a1, a2, a3, a4, a5⟩ := hl
  have hl' : zLst c S m l := ⟨a1, a2, a3, a4, a5⟩
  have hin : ∀ k, k < l.length → l.getD k 0 < S := fun k hk => a2 _ (zget_mem hk)
  refine w_Code_chooseSimpleBits_0 hc ?_
  -- the bits are given
  have k47 : ∀ (f : Nat), f < l.length → l.getD f 0 = zfr tm l.tail (l.headD 0) → ∀ (r k : Nat) (m1 : zM), k + r = l.length → zFb c l m m1 → (∀ j, j < k → m1 (c + 3) (l.getD j 0) = nI (zsb l.length (decide (l.getD j 0 = zfr tm l.tail (l.headD 0))))) → zR κ (d + 1) Y_Code_chooseSimpleBits 47 [some (.inr c), some (.inl (nI f)), some (.inl (nI k))] [] m1 Q := by
    intro f hf hfe r
    induction r with
    | zero =>
      intro k m1 hk hF hb
      have e6 : m1 c 6 = nI l.length := by rw [hF.1 c (by omega)]; exact a3
      refine w_Code_chooseSimpleBits_47 hc ⟨fun _ => hQ m1 hF (fun s hs => ?_), fun z => ?_⟩
      · obtain ⟨j, hj, rfl⟩ := zget_ix hs
        exact hb j (by omega)
      · rw [e6] at z
        exact absurd (nI_le (by omega) (by omega)) z
    | succ r ih =>
      intro k m1 hk hF hb
      have e6 : m1 c 6 = nI l.length := by rw [hF.1 c (by omega)]; exact a3
      have e1 : m1 (c + 1) k = nI (l.getD k 0) := by rw [hF.1 (c + 1) (by omega)]; exact a4 k (by omega)
      have hks := hin k (by omega)
      refine w_Code_chooseSimpleBits_47 hc ⟨fun z => ?_, fun _ => ?_⟩
      · rw [e6] at z
        exact absurd z (nI_ge (by omega) (by omega))
      have key : ∀ x : Int32, decide (¬ x = 0) = decide (l.getD k 0 = zfr tm l.tail (l.headD 0)) → zR κ (d + 1) Y_Code_chooseSimpleBits 79 [some (.inr c), some (.inl (nI f)), some (.inl (nI k))] [.inl x, .inl (m1 c 6), .inl (m1 (c + 1) (nI k).toNatClampNeg), .inr (c + 3)] m1 Q := by
        intro x hx
        rw [nI_clamp (by omega), e1, e6]
        refine w_Code_chooseSimpleBits_79 hc (s_simpleBits (by omega) ⟨_, rfl, vp_in_nI hks (by omega), ?_⟩)
        rw [nI_clamp (by omega), nI_1, hx]
        refine ih (k + 1) _ (by omega) (hF.tr ⟨fun q hq => zms_ne hq, fun s hs => zms_nk (fun z => hs (by rw [z]; exact zget_mem (by omega)))⟩) (fun j hj => ?_)
        by_cases hjk : l.getD j 0 = l.getD k 0
        · rw [hjk, zms_ss]
        · rw [zms_nk hjk]
          refine hb j ?_
          rcases Nat.lt_or_ge j k with g | g
          · exact g
          · have : j = k := by omega
            subst this
            exact absurd rfl hjk
      refine ⟨vp_in_nI (by omega) (by decide), fun z => key 0 ?_, fun z => key 1 ?_⟩
      · have z : ¬ k = f := fun w => z (by rw [w])
        rw [decide_eq_false (fun w => w rfl)]
        symm
        refine decide_eq_false (fun w => z ?_)
        rw [← hfe] at w
        have i1 := zix_get hnd (show k < l.length by omega)
        have i2 := zix_get hnd hf
        rw [w] at i1
        omega
      · have z : k = f := (nI_eq (by omega) (by omega)).mp z
        rw [decide_eq_true (by decide)]
        symm
        refine decide_eq_true ?_
        rw [z]
        exact hfe
  -- the front one is sought
  have k4 : ∀ (r k f : Nat), k + r = l.length → f < l.length → zfr tm (l.drop k) (l.getD f 0) = zfr tm l.tail (l.headD 0) → zR κ (d + 1) Y_Code_chooseSimpleBits 4 [some (.inr c), some (.inl (nI f)), some (.inl (nI k))] [] m Q := by
    intro r
    induction r with
    | zero =>
      intro k f hk hf hz
      rw [List.drop_eq_nil_of_le (by omega)] at hz
      refine w_Code_chooseSimpleBits_4 hc ⟨fun _ => k47 f hf hz l.length 0 m (by omega) ⟨fun _ _ => rfl, fun _ _ => rfl⟩ (fun j hj => absurd hj (Nat.not_lt_zero j)), fun z => ?_⟩
      rw [a3] at z
      exact absurd (nI_le (by omega) (by omega)) z
    | succ r ih =>
      intro k f hk hf hz
      have hkl : k < l.length := by omega
      rw [zdrop_cons hkl, zfr] at hz
      have h1 := hin k hkl
      have h2 := hin f hf
      refine w_Code_chooseSimpleBits_4 hc ⟨fun z => ?_, fun _ => ?_⟩
      · rw [a3] at z
        exact absurd z (nI_ge (by omega) (by omega))
      rw [nI_clamp (by omega), nI_clamp (by omega), a4 k hkl, a4 f hf, nI_clamp (by omega), nI_clamp (by omega), htm _ h1, htm _ h2, nI_1]
      have b1 := htb (l.getD k 0)
      have b2 := htb (l.getD f 0)
      refine ⟨vp_in_nI (by omega) (by decide), vp_in_nI h1 (by omega), vp_in_nI (by omega) (by decide), vp_in_nI h2 (by omega), fun z => ?_, fun z => ?_⟩
      · have z := (nI_leI (by omega) (by omega)).mp z
        rw [if_neg (by omega)] at hz
        exact ih (k + 1) f (by omega) hf hz
      · have z : ¬ tm (l.getD k 0) ≤ tm (l.getD f 0) := fun w => z (nI_le w (by omega))
        rw [if_pos (by omega)] at hz
        exact ih (k + 1) k (by omega) hkl hz
  refine k4 (l.length - 1) 1 0 (by omega) hpos ?_
  cases l with
  | nil => exact absurd rfl hne
  | cons a l => rfl
theorem s_first_bits {m : zM} {l : List Nat} (hc : is_Code c S) (hS : S ≤ 256) (hl : zLst c S m l) (hnd : l.Nodup) (htm : ∀ s, s < S → m (c + 2) s = nI (tm s)) (htb : ∀ s, tm s ≤ 48) (hp : ∀ s ∈ l, 0 < tm s) (hsum : ztot tm l ≤ 48)
    (hQ : ∀ m', zFb c l m m' → (∀ s ∈ l, m' (c + 3) s = nI (zw0 tm l s)) → Q (some (.inl (nI (zsp0 tm l)))) m') : zR κ d Y_Code_chooseFirstBits 0 [some (.inr c), none, none, none, none] [] m Q := by
  obtain ⟨a1, a2, a3, a4, a5⟩ := hl
  have hin : ∀ k, k < l.length → l.getD k 0 < S := fun k hk => a2 _ (zget_mem hk)
  have hkr := zkraft hp (show ztot tm l ≤ 64 by omega)
  refine w_Code_chooseFirstBits_0 hc ?_
  have k37 : ∀ (r k sp : Nat) (m1 : zM), k + r = l.length → sp + ((l.take k).map (fun s => 64 / 2 ^ zw0 tm l s)).sum = 64 → zFb c l m m1 → (∀ j, j < k → m1 (c + 3) (l.getD j 0) = nI (zw0 tm l (l.getD j 0))) → zR κ d Y_Code_chooseFirstBits 37 [some (.inr c), some (.inl (nI (ztot tm l))), some (.inl (nI sp)), some (.inl (nI k)), none] [] m1 Q := by
    intro r
    induction r with
    | zero =>
      intro k sp m1 hk hsp hF hb
      have e6 : m1 c 6 = nI l.length := by rw [hF.1 c (by omega)]; exact a3
      rw [List.take_of_length_le (by omega)] at hsp
      have esp : sp = zsp0 tm l := by
        unfold zsp0
        omega
      refine w_Code_chooseFirstBits_37 hc ⟨fun _ => ?_, fun z => ?_⟩
      · rw [esp]
        refine hQ m1 hF (fun s hs => ?_)
        obtain ⟨j, hj, rfl⟩ := zget_ix hs
        exact hb j (by omega)
      · rw [e6] at z
        exact absurd (nI_le (by omega) (by omega)) z
    | succ r ih =>
      intro k sp m1 hk hsp hF hb
      have hkl : k < l.length := by omega
      have e6 : m1 c 6 = nI l.length := by rw [hF.1 c (by omega)]; exact a3
      have e1 : m1 (c + 1) k = nI (l.getD k 0) := by rw [hF.1 (c + 1) (by omega)]; exact a4 k hkl
      have hks := hin k hkl
      have e2 : m1 (c + 2) (l.getD k 0) = nI (tm (l.getD k 0)) := by rw [hF.1 (c + 2) (by omega)]; exact htm _ hks
      have ew : zw0 tm l (l.getD k 0) = zfb (ztot tm l) (tm (l.getD k 0)) 5 1 := if_pos (zget_mem hkl)
      have hw6 := (zw0_in (tm := tm) (A := l) (s := l.getD k 0)).1
      have hnext : zR κ d Y_Code_chooseFirstBits 79 [some (.inr c), some (.inl (nI (ztot tm l))), some (.inl (nI sp)), some (.inl (nI k)), some (.inl (nI (zw0 tm l (l.getD k 0))))] [] m1 Q := by
        refine w_Code_chooseFirstBits_79 hc ?_
        rw [nI_clamp (by omega), e1, nI_clamp (by omega), z64_shr (by omega), nI_1]
        have hs2 : ((l.take (k + 1)).map (fun s => 64 / 2 ^ zw0 tm l s)).sum = ((l.take k).map (fun s => 64 / 2 ^ zw0 tm l s)).sum + 64 / 2 ^ zw0 tm l (l.getD k 0) := by
          rw [ztake_succ hkl, List.map_append, List.sum_append]
          simp
        have hs3 : ((l.take (k + 1)).map (fun s => 64 / 2 ^ zw0 tm l s)).sum ≤ 64 := by
          have e : (l.map (fun s => 64 / 2 ^ zw0 tm l s)).sum = ((l.take (k + 1)).map (fun s => 64 / 2 ^ zw0 tm l s)).sum + ((l.drop (k + 1)).map (fun s => 64 / 2 ^ zw0 tm l s)).sum := by
            rw [← List.sum_append, ← List.map_append, List.take_append_drop]
          omega
        rw [nI_sub (by omega)]
        refine ⟨vp_in_nI (by omega) (by decide), vp_in_nI hks (by omega), ih (k + 1) _ _ (by omega) (by omega) (hF.tr ⟨fun q hq => zms_ne hq, fun s hs => zms_nk (fun z => hs (by rw [z]; exact zget_mem hkl))⟩) (fun j hj => ?_)⟩
        by_cases hjk : l.getD j 0 = l.getD k 0
        · rw [hjk, zms_ss]
        · rw [zms_nk hjk]
          refine hb j ?_
          rcases Nat.lt_or_ge j k with g | g
          · exact g
          · have : j = k := by omega
            subst this
            exact absurd rfl hjk
      have k48 : ∀ (rr b : Nat), b + rr = 6 → zfb (ztot tm l) (tm (l.getD k 0)) rr b = zw0 tm l (l.getD k 0) → zR κ d Y_Code_chooseFirstBits 48 [some (.inr c), some (.inl (nI (ztot tm l))), some (.inl (nI sp)), some (.inl (nI k)), some (.inl (nI b))] [] m1 Q := by
        intro rr
        induction rr with
        | zero =>
          intro b hb6 hz
          have hz : b = zw0 tm l (l.getD k 0) := hz
          rw [← hz] at hnext
          exact w_Code_chooseFirstBits_48 hc ⟨fun _ => hnext, fun z => absurd (show nI 6 ≤ nI b from nI_le (by omega) (by omega)) z⟩
        | succ rr ih2 =>
          intro b hb6 hz
          rw [zfb] at hz
          refine w_Code_chooseFirstBits_48 hc ⟨fun z => absurd z (show ¬ nI 6 ≤ nI b from nI_ge (by omega) (by decide)), fun _ => ?_⟩
          have hpow : tm (l.getD k 0) * 2 ^ b ≤ 48 * 64 := by
            have := htb (l.getD k 0)
            have h2 : 2 ^ b ≤ 2 ^ 6 := Nat.pow_le_pow_right (by decide) (by omega)
            exact Nat.mul_le_mul this h2
          rw [nI_clamp (by omega), e1, nI_clamp (by omega), e2, pk_shlN _ _ (zs_l _ (by omega)) (by omega), nI_1]
          refine ⟨vp_in_nI (by omega) (by decide), vp_in_nI hks (by omega), fun z => ?_, fun z => ?_⟩
          · rw [if_pos ((nI_leI (by omega) (by omega)).mp z)] at hz
            rw [← hz] at hnext
            exact hnext
          · rw [if_neg (fun w => z (nI_le w (by omega)))] at hz
            exact ih2 (b + 1) (by omega) hz
      refine w_Code_chooseFirstBits_37 hc ⟨fun z => ?_, fun _ => k48 5 1 rfl ew.symm⟩
      rw [e6] at z
      exact absurd z (nI_ge (by omega) (by omega))
  have k4 : ∀ (r k acc : Nat), k + r = l.length → acc + ztot tm (l.drop k) = ztot tm l → zR κ d Y_Code_chooseFirstBits 4 [some (.inr c), some (.inl (nI acc)), some (.inl (nI k)), none, none] [] m Q := by
    intro r
    induction r with
    | zero =>
      intro k acc hk hz
      rw [List.drop_eq_nil_of_le (by omega)] at hz
      have hz : acc = ztot tm l := hz
      refine w_Code_chooseFirstBits_4 hc ⟨fun _ => ?_, fun z => ?_⟩
      · rw [hz]
        exact k37 l.length 0 64 m (by omega) (by simp) ⟨fun _ _ => rfl, fun _ _ => rfl⟩ (fun j hj => absurd hj (Nat.not_lt_zero j))
      · rw [a3] at z
        exact absurd (nI_le (by omega) (by omega)) z
    | succ r ih =>
      intro k acc hk hz
      have hkl : k < l.length := by omega
      have h1 := hin k hkl
      rw [zdrop_cons hkl] at hz
      have hz : acc + (tm (l.getD k 0) + ztot tm (l.drop (k + 1))) = ztot tm l := hz
      refine w_Code_chooseFirstBits_4 hc ⟨fun z => ?_, fun _ => ?_⟩
      · rw [a3] at z
        exact absurd z (nI_ge (by omega) (by omega))
      rw [nI_clamp (by omega), a4 k hkl, nI_clamp (by omega), htm _ h1, nI_add, nI_1]
      exact ⟨vp_in_nI (by omega) (by decide), vp_in_nI h1 (by omega), ih (k + 1) _ (by omega) (by omega)⟩
  exact k4 l.length 0 0 (by omega) (by rw [List.drop_zero, Nat.zero_add])
theorem s_spread {l : List Nat} {m0 : zM} (hc : is_Code c S) (hS : S ≤ 256) (hl : zLst c S m0 l) {fin : (Nat → Nat) × Nat} {x1 : Int32}
    (hQ : ∀ m', zFb c l m0 m' → (∀ s ∈ l, m' (c + 3) s = nI (fin.1 s)) → Q none m') :
    ∀ (t k sp : Nat) (w : Nat → Nat) (m : zM), k + t = 384 → sp ≤ 64 → (∀ s, w s ≤ 6) → zFb c l m0 m → (∀ s ∈ l, m (c + 3) s = nI (w s)) → zit l t w sp = fin → zR κ d Y_Code_spreadSpace 4 [some (.inr c), some (.inl x1), some (.inl (nI sp)), some (.inl (nI k)), none, none, none] [] m Q := by
  obtain ⟨a1, a2, a3, a4, a5⟩ := hl
  have hin : ∀ k, k < l.length → l.getD k 0 < S := fun k hk => a2 _ (zget_mem hk)
  intro t
  induction t with
  | zero =>
    intro k sp w m hk hsp hw hF hb hz
    subst hz
    exact w_Code_spreadSpace_4 hc ⟨fun _ => hQ m hF hb, fun z => absurd (show nI 384 ≤ nI k from nI_le (by omega) (by omega)) z⟩
  | succ t ih =>
    intro k sp w m hk hsp hw hF hb hz
    rw [zit] at hz
    refine w_Code_spreadSpace_4 hc ⟨fun z => absurd z (show ¬ nI 384 ≤ nI k from nI_ge (by omega) (by decide)), fun _ => ⟨fun z => ?_, fun z => ?_⟩⟩
    · have z := (nI_leI (by omega) (by decide)).mp (show nI sp ≤ nI 0 from z)
      rw [if_pos (by omega)] at hz
      subst hz
      exact hQ m hF hb
    have z : ¬ sp = 0 := fun g => z (show nI sp ≤ nI 0 from by rw [g]; exact Int32.le_refl _)
    rw [if_neg z] at hz
    have inner : ∀ (r j sp1 : Nat) (w1 : Nat → Nat) (m1 : zM), j + r = l.length → sp1 ≤ 64 → (∀ s, w1 s ≤ 6) → zFb c l m0 m1 → (∀ s ∈ l, m1 (c + 3) s = nI (w1 s)) → zrd1 (l.drop j) w1 sp1 = zrd1 l w sp → zR κ d Y_Code_spreadSpace 18 [some (.inr c), some (.inl x1), some (.inl (nI sp1)), some (.inl (nI k)), some (.inl (nI j)), none, none] [] m1 Q := by
      intro r
      induction r with
      | zero =>
        intro j sp1 w1 m1 hj hsp1 hw1 hF1 hb1 hz1
        rw [List.drop_eq_nil_of_le (by omega)] at hz1
        have hz1 : (w1, sp1) = zrd1 l w sp := hz1
        rw [← hz1] at hz
        have e6 : m1 c 6 = nI l.length := by rw [hF1.1 c (by omega)]; exact a3
        refine w_Code_spreadSpace_18 hc ⟨fun _ => ?_, fun z => ?_⟩
        · rw [nI_1]
          exact ih (k + 1) sp1 w1 m1 (by omega) hsp1 hw1 hF1 hb1 hz
        · rw [e6] at z
          exact absurd (nI_le (by omega) (by omega)) z
      | succ r ih2 =>
        intro j sp1 w1 m1 hj hsp1 hw1 hF1 hb1 hz1
        have hjl : j < l.length := by omega
        have h1 := hin j hjl
        have e6 : m1 c 6 = nI l.length := by rw [hF1.1 c (by omega)]; exact a3
        have e1 : m1 (c + 1) j = nI (l.getD j 0) := by rw [hF1.1 (c + 1) (by omega)]; exact a4 j hjl
        rw [zdrop_cons hjl, zrd1] at hz1
        have hw6 := hw1 (l.getD j 0)
        have hd64 : 64 / 2 ^ w1 (l.getD j 0) ≤ 64 := Nat.div_le_self _ _
        refine w_Code_spreadSpace_18 hc ⟨fun z => ?_, fun _ => ?_⟩
        · rw [e6] at z
          exact absurd z (nI_ge (by omega) (by omega))
        rw [nI_clamp (by omega), e1, nI_clamp (by omega), hb1 _ (zget_mem hjl), z64_shr (by omega), nI_1]
        refine ⟨vp_in_nI (by omega) (by decide), vp_in_nI h1 (by omega), fun z1 => ?_, fun z1 => ⟨fun z2 => ?_, fun z2 => ?_⟩⟩
        · have z1 := (nI_leI (by omega) (by decide)).mp (show nI (w1 (l.getD j 0)) ≤ nI 1 from z1)
          rw [if_neg (by omega)] at hz1
          exact ih2 (j + 1) sp1 w1 m1 (by omega) hsp1 hw1 hF1 hb1 hz1
        · have z2 := (nI_ltI (by omega) (by omega)).mp z2
          rw [if_neg (by omega)] at hz1
          exact ih2 (j + 1) sp1 w1 m1 (by omega) hsp1 hw1 hF1 hb1 hz1
        · have z1 : 1 < w1 (l.getD j 0) := by
            rcases Nat.lt_or_ge 1 (w1 (l.getD j 0)) with g | g
            · exact g
            · exact absurd (show nI (w1 (l.getD j 0)) ≤ nI 1 from nI_le g (by decide)) z1
          have z2 : 64 / 2 ^ w1 (l.getD j 0) ≤ sp1 := by
            rcases Nat.lt_or_ge sp1 (64 / 2 ^ w1 (l.getD j 0)) with g | g
            · exact absurd (nI_lt g (by omega)) z2
            · exact g
          rw [if_pos ⟨z1, z2⟩] at hz1
          have e3 : nI (w1 (l.getD j 0)) - 1 = nI (w1 (l.getD j 0) - 1) := nI_sub (b := 1) (by omega)
          rw [nI_sub z2, e3]
          refine ⟨vp_in_nI (by omega) (by decide), vp_in_nI h1 (by omega), ih2 (j + 1) _ _ _ (by omega) (Nat.le_trans (Nat.sub_le _ _) hsp1) (fun s => ?_) (hF1.tr ⟨fun q hq => zms_ne hq, fun s hs => zms_nk (fun z => hs (by rw [z]; exact zget_mem hjl))⟩) (fun s hs => ?_) hz1⟩
          · unfold zup
            split
            · omega
            · exact hw1 s
          · unfold zup
            by_cases hse : s = l.getD j 0
            · rw [if_pos hse, hse, zms_ss]
            · rw [if_neg hse, zms_nk hse]
              exact hb1 s hs
    exact inner l.length 0 sp w m (by omega) hsp hw hF hb (by rw [List.drop_zero])
/-- the class's code, made -/
def zMade (c S nb : Nat) (tm : Nat → Nat) (m : zM) : Prop := m c 0 = nI S ∧ m c 1 = nI nb ∧ zLst c S m (zSo tm S) ∧ (∀ s, s < S → m (c + 3) s = nI (zcw tm S s)) ∧ ∀ s ∈ zSo tm S, m (c + 4) s = zcv tm S s
def zFe (c : Nat) (m m' : zM) : Prop := (∀ q, q ≠ c → q ≠ c + 1 → q ≠ c + 3 → q ≠ c + 4 → m' q = m q) ∧ ∀ k, k ≠ 6 → m' c k = m c k
theorem zFe.tr {m m' m'' : zM} (h : zFe c m m') (h' : zFe c m' m'') : zFe c m m'' := ⟨fun q a b e g => (h'.1 q a b e g).trans (h.1 q a b e g), fun k a => (h'.2 k a).trans (h.2 k a)⟩
theorem zFb.e {l : List Nat} {m m' : zM} (h : zFb c l m m') : zFe c m m' := ⟨fun q _ _ b _ => h.1 q b, fun k _ => by rw [h.1 c (by omega)]⟩
theorem s_makeFromTimes {nb : Nat} {m : zM} (hc : is_Code c S) (hS : S ≤ 256) (hS0 : 0 < S) (hcd : zCode c S nb m) (htm : ∀ s, s < S → m (c + 2) s = nI (tm s)) (htb : ∀ s, tm s ≤ 48) (hsum : ztot tm (zlst tm S) ≤ 48)
    (hQ : ∀ m', zMade c S nb tm m' → zFe c m m' → Q none m') : zR κ (d + 2) Y_Code_makeFromTimes 0 [some (.inr c), none] [] m Q := by
  obtain ⟨c0, c1, l0, hl0⟩ := hcd
  have hlen : (zlst tm S).length ≤ 48 := Nat.le_trans (ztot_pos (fun s hs => (zlst_mem.mp hs).2)) hsum
  refine w_Code_makeFromTimes_0 hc (s_forgetListed hc hS hl0 (fun m1 a1 a2 a3 a4 => ⟨rfl, ?_⟩))
  have hF1 : zFe c m m1 := ⟨fun q p1 _ p3 _ => a1 q p1 p3, a2⟩
  -- sorted, words given
  have k71 : ∀ (x1 : Int32) (m3 : zM), zLst c S m3 (zL0 tm S) → (∀ s ∈ zL0 tm S, m3 (c + 3) s = nI (zcw tm S s)) → zFe c m m3 → zR κ (d + 1 + 1) Y_Code_makeFromTimes 71 [some (.inr c), some (.inl x1)] [] m3 Q := by
    intro x1 m3 hl3 hb3 hF3
    have hbw : ∀ t, t < S → m3 (c + 3) t = nI (zcw tm S t) := by
      intro t ht
      by_cases hin : t ∈ zL0 tm S
      · exact hb3 t hin
      · rw [hl3.2.2.2.2 t ht hin, zcw_in.2.1 hin] <;> rfl
    refine w_Code_makeFromTimes_71 hc (s_sortListed (bw := zcw tm S) hc hS hl3 zL0_nodup (fun t _ => zcw_in.1) hbw (fun L m4 p1 p2 p3 p4 => ⟨rfl, ?_⟩))
    have eL : L = zSo tm S := zuniq (zrk (zcw tm S)) L (zSo tm S) (p1.trans zSo_perm.symm) p2 (zSo_pair hS hS0)
    subst eL
    have hnd : (zSo tm S).Nodup := zSo_perm.nodup_iff.mpr zL0_nodup
    have hb4 : ∀ t, t < S → m4 (c + 3) t = nI (zcw tm S t) := fun t ht => by rw [p4 (c + 3) (by omega)]; exact hbw t ht
    refine s_giveCodeWords hc hS p3 hnd (fun m5 w1 w2 => ⟨rfl, hQ m5 ⟨?_, ?_, zLst_of (w1 c (by omega)) (w1 (c + 1) (by omega)) (w1 (c + 3) (by omega)) p3, fun s hs => by rw [w1 (c + 3) (by omega)]; exact hb4 s hs, fun s hs => ?_⟩ (hF3.tr ⟨fun q p1 p2 p3' p4' => by rw [w1 q p4', p4 q p2], fun k _ => by rw [w1 c (by omega), p4 c (by omega)]⟩)⟩)
    · rw [w1 c (by omega), p4 c (by omega), hF3.2 0 (by decide)]
      exact c0
    · rw [w1 c (by omega), p4 c (by omega), hF3.2 1 (by decide)]
      exact c1
    · obtain ⟨k, hk, rfl⟩ := zget_ix hs
      rw [w2 k hk]
      unfold zcv
      rw [zix_get hnd hk]
      exact zwI_congr (fun t ht => hb4 t (zL0_lt hS0 (zSo_perm.mem_iff.mp ht))) k hk
  -- the bits
  have k48 : ∀ (x1 : Int32) (m2 : zM), zLst c S m2 (zL0 tm S) → zFe c m m2 → zR κ (d + 1 + 1) Y_Code_makeFromTimes 48 [some (.inr c), some (.inl x1)] [] m2 Q := by
    intro x1 m2 hl2 hF2
    have htm2 : ∀ s, s < S → m2 (c + 2) s = nI (tm s) := fun s hs => by rw [hF2.1 (c + 2) (by omega) (by omega) (by omega) (by omega)]; exact htm s hs
    have e6 : m2 c 6 = nI (zL0 tm S).length := hl2.2.2.1
    have h64 := hl2.1
    refine w_Code_makeFromTimes_48 hc ⟨fun z => ?_, fun z => ?_⟩
    · rw [e6] at z
      have z := (nI_ltI (by decide) (by omega)).mp (show nI 4 < nI (zL0 tm S).length from z)
      have hA : ¬ (zlst tm S).length = 0 := by
        intro w
        unfold zL0 at z
        rw [if_pos w] at z
        exact absurd z (by decide)
      have eA : zL0 tm S = zlst tm S := if_neg hA
      rw [eA] at z hl2
      have hp : ∀ s ∈ zlst tm S, 0 < tm s := fun s hs => (zlst_mem.mp hs).2
      refine s_first_bits hc hS hl2 zlst_nodup htm2 htb hp hsum (fun m3 b1 b2 => ⟨_, rfl, ?_⟩)
      refine w_Code_spreadSpace_0 hc (s_spread (fin := zit (zlst tm S) 384 (zw0 tm (zlst tm S)) (zsp0 tm (zlst tm S))) hc hS (b1.lst hl2) (fun m4 g1 g2 => ⟨rfl, ?_⟩) 384 0 (zsp0 tm (zlst tm S)) (zw0 tm (zlst tm S)) m3 (by omega) (by unfold zsp0; omega) (fun s => zw0_in.1) ⟨fun _ _ => rfl, fun _ _ => rfl⟩ b2 rfl)
      have ec : zcw tm S = (zit (zlst tm S) 384 (zw0 tm (zlst tm S)) (zsp0 tm (zlst tm S))).1 := by
        unfold zcw
        rw [if_neg (by omega)]
      refine k71 x1 m4 ?_ ?_ (hF2.tr (b1.e.tr g1.e))
      · rw [eA]
        exact g1.lst (b1.lst hl2)
      · rw [eA, ec]
        exact g2
    · rw [e6] at z
      have z : (zL0 tm S).length ≤ 4 := by
        rcases Nat.lt_or_ge 4 (zL0 tm S).length with g | g
        · exact absurd (show nI 4 < nI (zL0 tm S).length from nI_lt g (by omega)) z
        · exact g
      refine s_simple_bits hc hS hl2 zL0_ne z zL0_nodup htm2 htb (fun m3 b1 b2 => ⟨rfl, k71 x1 m3 (b1.lst hl2) (fun s hs => ?_) (hF2.tr b1.e)⟩)
      rw [b2 s hs]
      unfold zcw
      have hA : (zlst tm S).length ≤ 4 := by
        unfold zL0 at z
        split at z
        · omega
        · exact z
      rw [if_pos hA, if_pos hs]
  -- the symbols are listed
  have k6 : ∀ (r s : Nat) (m2 : zM), s + r = S → zLst c S m2 (zlst tm s) → (∀ t, t < S → m2 (c + 3) t = 0) → zFe c m m2 → zR κ (d + 1 + 1) Y_Code_makeFromTimes 6 [some (.inr c), some (.inl (nI s))] [] m2 Q := by
    intro r
    induction r with
    | zero =>
      intro s m2 hs hl2 hb2 hF2
      have es : s = S := by omega
      subst es
      have e0 : m2 c 0 = nI s := by rw [hF2.2 0 (by decide)]; exact c0
      have e6 : m2 c 6 = nI (zlst tm s).length := hl2.2.2.1
      refine w_Code_makeFromTimes_6 hc ⟨fun _ => ⟨fun z => ?_, fun z => ?_⟩, fun z => ?_⟩
      · rw [e6] at z
        have z : ¬ (zlst tm s).length = 0 := fun w => z (by rw [w]; rfl)
        refine k48 _ m2 ?_ hF2
        unfold zL0
        rw [if_neg z]
        exact hl2
      · rw [e6] at z
        have z : (zlst tm s).length = 0 := (nI_eq (by omega) (by decide)).mp z
        refine s_list (s := 0) hc hS hl2 (by omega) hS0 (fun m3 g1 g2 g3 g4 g5 => ⟨rfl, k48 _ m3 ?_ (hF2.tr ⟨fun q p1 p2 p3 _ => g1 q p1 p2 p3, g2⟩)⟩)
        unfold zL0
        rw [if_pos z]
        rw [List.length_eq_zero_iff.mp z] at g3
        exact g3
      · rw [e0] at z
        exact absurd (Int32.le_refl _) z
    | succ r ih =>
      intro s m2 hs hl2 hb2 hF2
      have hsS : s < S := by omega
      have e0 : m2 c 0 = nI S := by rw [hF2.2 0 (by decide)]; exact c0
      have e2 : m2 (c + 2) s = nI (tm s) := by rw [hF2.1 (c + 2) (by omega) (by omega) (by omega) (by omega)]; exact htm s hsS
      have htbs := htb s
      have hlm : (zlst tm s).length ≤ 48 := by
        have := zlst_mono (tm := tm) (s := s) (S - s)
        rw [show s + (S - s) = S by omega] at this
        omega
      refine w_Code_makeFromTimes_6 hc ⟨fun z => ?_, fun _ => ?_⟩
      · rw [e0] at z
        exact absurd z (nI_ge hsS (by omega))
      rw [nI_clamp (by omega), e2, nI_1]
      refine ⟨vp_in_nI hsS (by omega), fun z => ?_, fun z => ?_⟩
      · have z := (nI_leI (by omega) (by decide)).mp (show nI (tm s) ≤ nI 0 from z)
        refine ih (s + 1) m2 (by omega) ?_ hb2 hF2
        rw [zlst_succ, if_neg (by omega)]
        exact hl2
      · have z : 0 < tm s := by
          rcases Nat.eq_zero_or_pos (tm s) with g | g
          · exact absurd (show nI (tm s) ≤ nI 0 from by rw [g]; exact Int32.le_refl _) z
          · exact g
        refine s_list hc hS hl2 (by omega) hsS (fun m3 g1 g2 g3 g4 g5 => ⟨rfl, ih (s + 1) m3 (by omega) ?_ (fun t ht => ?_) (hF2.tr ⟨fun q p1 p2 p3 _ => g1 q p1 p2 p3, g2⟩)⟩)
        · rw [zlst_succ, if_pos z]
          exact g3
        · by_cases hts : t = s
          · rw [hts]
            exact g4
          · rw [g5 t hts]
            exact hb2 t ht
  exact k6 S 0 m1 (by omega) ⟨Nat.zero_le _, fun s h => absurd h List.not_mem_nil, by rw [a3]; rfl, fun k h => absurd h (Nat.not_lt_zero k), fun s h _ => a4 s h⟩ a4 hF1
end zCmake
