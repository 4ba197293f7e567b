/-! the reference counts the symbols -/
section zMcount
variable {κ : zK} {d : Nat} {Q : Option zV → zM → Prop} {T : List Nat} {map : Bool}
theorem s_Mo_forget {m : zM} (hQ : ∀ m', (∀ q, q ≠ 72 → m' q = m q) → (∀ i, i < 1024 → m' 72 i = 0) → Q none m') : zR κ d Y_Mo_forget 0 [some (.inr 68), none] [] m Q := by
  refine w_Mo_forget_0 ?_
  have key : ∀ (r s : Nat) (m1 : zM), s + r = 1024 → (∀ q, q ≠ 72 → m1 q = m q) → (∀ x, x < s → m1 72 x = 0) → zR κ d Y_Mo_forget 2 [some (.inr 68), some (.inl (nI s))] [] m1 Q := by
    intro r
    induction r with
    | zero =>
      intro s m1 hs hF hz
      exact w_Mo_forget_2 ⟨fun _ => hQ m1 hF (fun x hx => hz x (by omega)), fun g => absurd (show nI 1024 ≤ nI s from nI_le (by omega) (by omega)) g⟩
    | succ r ih =>
      intro s m1 hs hF hz
      refine w_Mo_forget_2 ⟨fun g => absurd g (show ¬ nI 1024 ≤ nI s from nI_ge (by omega) (by decide)), fun _ => ⟨vp_in_nI (by omega) (by decide), ?_⟩⟩
      rw [nI_clamp (by omega), nI_1]
      refine ih (s + 1) _ (by omega) (fun q hq => by rw [zms_ne hq]; exact hF q hq) (fun x hx => ?_)
      by_cases e : x = s
      · subst e
        exact zms_ss
      · rw [zms_nk e]
        exact hz x (by omega)
  exact key 1024 0 m (by omega) (fun _ _ => rfl) (fun x hx => absurd hx (Nat.not_lt_zero x))
theorem s_insKind {m : zM} {n : Nat} (hn : n < 100) (hQ : Q (some (.inl (nI (zis n)))) m) : zR κ d Y_Mo_insertKind 0 [some (.inl (nI n))] [] m Q := by
  have hz : zis n = (if n < 2 then n else if n < 6 then 2 else 3) := (zis_eq ⟨n, hn⟩).1
  rw [hz] at hQ
  refine w_Mo_insertKind_0 ⟨fun g => ⟨fun g2 => ?_, fun g2 => ?_⟩, fun g => ?_⟩
  · have g2 := (nI_leI (by decide) (by omega)).mp (show nI 6 ≤ nI n from g2)
    rw [if_neg (by omega), if_neg (by omega)] at hQ
    exact hQ
  · have g := (nI_leI (by decide) (by omega)).mp (show nI 2 ≤ nI n from g)
    have g2 : n < 6 := by
      rcases Nat.lt_or_ge n 6 with q | q
      · exact q
      · exact absurd (show nI 6 ≤ nI n from nI_le q (by omega)) g2
    rw [if_neg (by omega), if_pos g2] at hQ
    exact hQ
  · have g : n < 2 := by
      rcases Nat.lt_or_ge n 2 with q | q
      · exact q
      · exact absurd (show nI 2 ≤ nI n from nI_le q (by omega)) g
    rw [if_pos g] at hQ
    exact hQ
theorem s_symCount {m : zM} {i : Nat} (hi : i < 1024) (hQ : Q none (zms m 72 i (m 72 i + 1))) : zR κ (d + 1) Y_Mo_symbol 0 [some (.inr 68), some (.inl (nI i)), some (.inl 0), none] [] m Q := by
  refine w_Mo_symbol_0 ⟨fun g => absurd rfl g, fun _ => ⟨vp_in_nI hi (by decide), vp_in_nI hi (by decide), ?_⟩⟩
  rw [nI_clamp (by omega)]
  exact hQ
def zCm (f : Nat → Nat) (m : zM) : Prop := ∀ i, i < 1024 → m 72 i = nI (f i)
theorem zCm_inc {f : Nat → Nat} {m : zM} {i : Nat} (h : zCm f m) (hi : i < 1024) : zCm (fun j => f j + (if i = j then 1 else 0)) (zms m 72 i (m 72 i + 1)) := by
  intro j hj
  show zms m 72 i (m 72 i + 1) 72 j = nI (f j + if i = j then 1 else 0)
  by_cases e : j = i
  · subst e
    rw [zms_ss, if_pos rfl, h j hj, nI_1]
  · rw [zms_nk e, if_neg (fun w => e w.symm)]
    exact h j hj
/-- a literal's index, at place q -/
theorem m_small {m : zM} {q : Nat} {x1 x3 x5 x6 x7 : Int32} (hT : zTm T m) (hq : q ≤ T.length) (hQ : ∀ x8 : Int32, zR κ (d + 1) Y_Mo_through 203 [some (.inr 68), some (.inl x1), some (.inl (nI map.toNat)), some (.inl x3), some (.inl (nI q)), some (.inl x5), some (.inl x6), some (.inl x7), some (.inl x8)] [.inl (nI (if zsml2 T map q = true then 256 else 0)), .inr 68] m Q) :
    ((nI map.toNat = 0 → zR κ (d + 1) Y_Mo_through 203 [some (.inr 68), some (.inl x1), some (.inl (nI map.toNat)), some (.inl x3), some (.inl (nI q)), some (.inl x5), some (.inl x6), some (.inl x7), some (.inl 0)] [.inl 0, .inr 68] m Q) ∧ (¬ nI map.toNat = 0 → ((nI q ≤ 0 → zR κ (d + 1) Y_Mo_through 203 [some (.inr 68), some (.inl x1), some (.inl (nI map.toNat)), some (.inl x3), some (.inl (nI q)), some (.inl x5), some (.inl x6), some (.inl x7), some (.inl 0)] [.inl 0, .inr 68] m Q) ∧ (¬ nI q ≤ 0 → vp_in (nI q - 1) 96 ∧ (((m 69 (nI q - 1).toNatClampNeg) < 97 → zR κ (d + 1) Y_Mo_through 203 [some (.inr 68), some (.inl x1), some (.inl (nI map.toNat)), some (.inl x3), some (.inl (nI q)), some (.inl x5), some (.inl x6), some (.inl x7), some (.inl 0)] [.inl 0, .inr 68] m Q) ∧ (¬ (m 69 (nI q - 1).toNatClampNeg) < 97 → vp_in (nI q - 1) 96 ∧ ((122 < (m 69 (nI q - 1).toNatClampNeg) → zR κ (d + 1) Y_Mo_through 203 [some (.inr 68), some (.inl x1), some (.inl (nI map.toNat)), some (.inl x3), some (.inl (nI q)), some (.inl x5), some (.inl x6), some (.inl x7), some (.inl 0)] [.inl 0, .inr 68] m Q) ∧ (¬ 122 < (m 69 (nI q - 1).toNatClampNeg) → zR κ (d + 1) Y_Mo_through 203 [some (.inr 68), some (.inl x1), some (.inl (nI map.toNat)), some (.inl x3), some (.inl (nI q)), some (.inl x5), some (.inl x6), some (.inl x7), some (.inl 1)] [.inl 256, .inr 68] m Q)))))))) := by
  have h96 := hT.1
  have hno : zsml2 T map q = false → ∀ x8 : Int32, zR κ (d + 1) Y_Mo_through 203 [some (.inr 68), some (.inl x1), some (.inl (nI map.toNat)), some (.inl x3), some (.inl (nI q)), some (.inl x5), some (.inl x6), some (.inl x7), some (.inl x8)] [.inl 0, .inr 68] m Q := by
    intro h x8
    have := hQ x8
    rw [h] at this
    exact this
  refine ⟨fun g => hno ?_ 0, fun g => ?_⟩
  · have hm : map = false := by
      cases map
      · rfl
      · exact absurd g (by decide)
    unfold zsml2
    rw [hm, Bool.false_and]
  have hm : map = true := by
    cases map
    · exact absurd rfl g
    · rfl
  have hs : zsml2 T map q = decide (0 < q ∧ 97 ≤ T.getD (q - 1) 0 ∧ T.getD (q - 1) 0 ≤ 122) := by
    unfold zsml2
    rw [hm, Bool.true_and]
  refine ⟨fun g2 => hno ?_ 0, fun g2 => ?_⟩
  · have g2 := (nI_leI (by omega) (by decide)).mp (show nI q ≤ nI 0 from g2)
    rw [hs]
    exact decide_eq_false (by omega)
  have hpos : 0 < q := by
    rcases Nat.eq_zero_or_pos q with w | w
    · exact absurd (show nI q ≤ nI 0 from by rw [w]; exact Int32.le_refl _) g2
    · exact w
  have e1 : nI q - 1 = nI (q - 1) := nI_sub (b := 1) hpos
  have hx := zT_b (T := T) (i := q - 1) hT.2.2.2
  rw [e1, nI_clamp (by omega), hT.2.2.1 _ (by omega)]
  have hin : vp_in (nI (q - 1)) 96 := vp_in_nI (by omega) (by decide)
  refine ⟨hin, fun w => hno ?_ 0, fun w => ⟨hin, fun v => hno ?_ 0, fun v => ?_⟩⟩
  · have w := (nI_ltI (by omega) (by decide)).mp (show nI (T.getD (q - 1) 0) < nI 97 from w)
    rw [hs]
    exact decide_eq_false (by omega)
  · have v := (nI_ltI (by decide) (by omega)).mp (show nI 122 < nI (T.getD (q - 1) 0) from v)
    rw [hs]
    exact decide_eq_false (by omega)
  · have w : ¬ T.getD (q - 1) 0 < 97 := fun k => w (nI_lt k (by decide))
    have v : ¬ 122 < T.getD (q - 1) 0 := fun k => v (nI_lt k (by omega))
    have ht : zsml2 T map q = true := by
      rw [hs]
      exact decide_eq_true (by omega)
    have := hQ 1
    rw [ht] at this
    exact this
theorem zch2_drop {e : Nat} : ∀ (cs : List zCmd) (k q : Nat), zch2 q cs e → k < cs.length → zch2 (cs.getD k zcn0).1 (cs.drop k) e := by
  intro cs
  induction cs with
  | nil => intro k q _ hk; exact absurd hk (Nat.not_lt_zero k)
  | cons a cs ih =>
    intro k q h hk
    cases k with
    | zero =>
      show zch2 a.1 (a :: cs) e
      rw [h.1]
      exact h
    | succ k => exact ih k _ h.2 (Nat.lt_of_succ_lt_succ hk)
set_option maxHeartbeats 1000000 in
theorem m_count {m : zM} {p e : Nat} {cs : List zCmd} (hT : zTm T m) (hP : zPm cs m) (hok : zCok p e cs) (he : e ≤ T.length) (hz : ∀ i, i < 1024 → m 72 i = 0)
    (hQ : ∀ m', zCm (zctm T map cs) m' → (∀ q, q ≠ 72 → m' q = m q) → Q none m') : zR κ (d + 2) Y_Mo_through 0 [some (.inr 68), some (.inl (nI p)), some (.inl (nI map.toNat)), some (.inl 0), none, none, none, none, none] [] m Q := by
  have h17 := hok.2.2
  have h96 := hT.1
  refine w_Mo_through_0 ?_
  have key : ∀ (r k q : Nat) (m5 : zM) (f : Nat → Nat), k + r = cs.length → zch2 q (cs.drop k) e → q ≤ e → zCm f m5 → (∀ i, f i + zctm T map (cs.drop k) i = zctm T map cs i) → (∀ q, q ≠ 72 → m5 q = m q) → zR κ (d + 1 + 1) Y_Mo_through 6 [some (.inr 68), some (.inl (nI p)), some (.inl (nI map.toNat)), some (.inl 0), some (.inl (nI q)), some (.inl (nI k)), none, none, none] [] m5 Q := by
    intro r
    induction r with
    | zero =>
      intro k q m5 f hk _ _ hz5 hf hF
      rw [List.drop_eq_nil_of_le (by omega)] at hf
      have ef : f = zctm T map cs := funext (fun i => hf i)
      rw [ef] at hz5
      have e15 : m5 68 15 = nI cs.length := by rw [hF 68 (by decide)]; exact hP.1
      refine w_Mo_through_6 ⟨fun _ => hQ m5 hz5 hF, fun g => ?_⟩
      rw [e15] at g
      exact absurd (nI_le (by omega) (by omega)) g
    | succ r ih =>
      intro k q m5 f hk hch hqe hz5 hf hF
      have hkl : k < cs.length := by omega
      have e15 : m5 68 15 = nI cs.length := by rw [hF 68 (by decide)]; exact hP.1
      have hcm := hP.2 k hkl
      have hcok : zcok (cs.getD k zcn0) := hok.2.1 _ (by rw [zgd_get cs zcn0 hkl]; exact List.getElem_mem _)
      rw [zdrop_consC hkl] at hf hch
      generalize hc : cs.getD k zcn0 = c at *
      have hf : ∀ i, f i + (zcc1 T map c i + zctm T map (cs.drop (k + 1)) i) = zctm T map cs i := hf
      obtain ⟨hcq, hch⟩ := hch
      have hend := zch2_n _ _ hch
      obtain ⟨o1, o2, o3, o4, o5, o6, o7, o8, o9, o10⟩ := hcok
      obtain ⟨g77, g78, g79, g80, g81, g82, g83⟩ := hcm
      obtain ⟨i1, i2, i3⟩ := zis_eq ⟨c.2.1, by omega⟩
      have i2 : zis c.2.1 < 4 := i2
      have hcell : ∀ m6 : zM, (∀ q, q ≠ 72 → m6 q = m q) → m6 77 k = nI c.2.1 ∧ m6 78 k = nI c.2.2.1 ∧ m6 80 k = zsI c.2.2.2.2.1 ∧ m6 82 k = nI c.2.2.2.2.2.2.1 := fun m6 h6 => ⟨by rw [h6 77 (by decide)]; exact g77, by rw [h6 78 (by decide)]; exact g78, by rw [h6 80 (by decide)]; exact g80, by rw [h6 82 (by decide)]; exact g82⟩
      have hin : vp_in (nI k) 50 := vp_in_nI (by omega) (by decide)
      -- the literals, then the distance
      have k134 : ∀ (rr j : Nat) (m6 : zM) (f6 : Nat → Nat), j + rr = c.2.1 → zCm f6 m6 → (∀ i, f6 i + (zltc T map i rr (q + j) + (if c.2.2.2.2.1 ≠ 0 ∧ 768 + (c.2.2.2.2.1 - 1) = i then 1 else 0) + zctm T map (cs.drop (k + 1)) i) = zctm T map cs i) → (∀ q, q ≠ 72 → m6 q = m q) → zR κ (d + 1 + 1) Y_Mo_through 134 [some (.inr 68), some (.inl (nI p)), some (.inl (nI map.toNat)), some (.inl 0), some (.inl (nI (q + j))), some (.inl (nI k)), some (.inl (nI (zis c.2.1))), some (.inl (nI j)), none] [] m6 Q := by
        intro rr
        induction rr with
        | zero =>
          intro j m6 f6 hj hz6 hf6 hF6
          obtain ⟨e77, e78, e80, e82⟩ := hcell m6 hF6
          have ej : j = c.2.1 := by omega
          subst ej
          refine w_Mo_through_134 ?_
          rw [nI_clamp (by omega), e77, e80, e82]
          refine ⟨hin, fun _ => ⟨hin, fun g => ⟨hin, ?_⟩, fun g => ⟨hin, ?_⟩⟩, fun g => absurd (Int32.le_refl _) g⟩
          · have hs : c.2.2.2.2.1 = 0 := by
              by_cases hs : c.2.2.2.2.1 = 0
              · exact hs
              · unfold zsI at g
                rw [if_neg hs] at g
                exact absurd g (nI_pos (by omega))
            rw [nI_1, nI_add]
            refine ih (k + 1) _ m6 f6 (by omega) hch (by omega) hz6 (fun i => ?_) hF6
            have := hf6 i
            rw [zltc, if_neg (show ¬ (c.2.2.2.2.1 ≠ 0 ∧ 768 + (c.2.2.2.2.1 - 1) = i) from fun w => w.1 hs), Nat.zero_add] at this
            exact this
          · have hs : ¬ c.2.2.2.2.1 = 0 := fun w => g (by rw [w]; decide)
            have ezs : zsI c.2.2.2.2.1 = nI (c.2.2.2.2.1 - 1) := by unfold zsI; rw [if_neg hs]
            have e7 : (768 : Int32) + nI (c.2.2.2.2.1 - 1) = nI (768 + (c.2.2.2.2.1 - 1)) := nI_add 768 _
            rw [ezs, e7]
            refine s_symCount (by omega) ⟨rfl, fun _ => ⟨hin, ?_⟩, fun w => absurd rfl w⟩
            rw [zms_ne (by decide), e82, nI_1, nI_add]
            refine ih (k + 1) _ _ _ (by omega) hch (by omega) (zCm_inc hz6 (show 768 + (c.2.2.2.2.1 - 1) < 1024 by omega)) (fun i => ?_) (fun q hq => by rw [zms_ne hq]; exact hF6 q hq)
            have := hf6 i
            rw [zltc] at this
            show f6 i + (if 768 + (c.2.2.2.2.1 - 1) = i then 1 else 0) + _ = _
            by_cases h7 : 768 + (c.2.2.2.2.1 - 1) = i
            · rw [if_pos (show c.2.2.2.2.1 ≠ 0 ∧ 768 + (c.2.2.2.2.1 - 1) = i from ⟨hs, h7⟩)] at this
              rw [if_pos h7]
              omega
            · rw [if_neg (show ¬ (c.2.2.2.2.1 ≠ 0 ∧ 768 + (c.2.2.2.2.1 - 1) = i) from fun w => h7 w.2)] at this
              rw [if_neg h7]
              omega
        | succ rr ih2 =>
          intro j m6 f6 hj hz6 hf6 hF6
          obtain ⟨e77, e78, e80, e82⟩ := hcell m6 hF6
          have hT6 : zTm T m6 := zTm_of (by rw [hF6 68 (by decide)]) (hF6 69 (by decide)) hT
          have hb := zT_b (T := T) (i := q + j) hT.2.2.2
          refine w_Mo_through_134 ?_
          rw [nI_clamp (by omega), e77]
          refine ⟨hin, fun g => absurd g (nI_ge (by omega) (by omega)), fun _ => m_small hT6 (by omega) (fun x8 => ?_)⟩
          refine w_Mo_through_203 ?_
          rw [nI_clamp (by omega), hT6.2.2.1 _ (by omega), nI_add, nI_1, nI_1]
          have hzl := zli_lt (T := T) (map := map) hT.2.2.2 (q + j)
          refine ⟨vp_in_nI (by omega) (by decide), s_symCount (i := zli T map (q + j)) (by omega) ⟨rfl, ?_⟩⟩
          rw [show q + j + 1 = q + (j + 1) by omega]
          refine ih2 (j + 1) _ _ (by omega) (zCm_inc hz6 (show zli T map (q + j) < 1024 by omega)) (fun i => ?_) (fun q hq => by rw [zms_ne hq]; exact hF6 q hq)
          have := hf6 i
          rw [zltc] at this
          show f6 i + (if zli T map (q + j) = i then 1 else 0) + _ = _
          rw [show q + (j + 1) = q + j + 1 by omega]
          omega
      obtain ⟨e77, e78, e80, e82⟩ := hcell m5 hF
      refine w_Mo_through_6 ⟨fun g => ?_, fun _ => ?_⟩
      · rw [e15] at g
        exact absurd g (nI_ge hkl (by omega))
      rw [nI_clamp (by omega), e77]
      refine ⟨hin, s_insKind (by omega) ⟨_, rfl, hin, ?_⟩⟩
      rw [e78]
      have e8 : (8 : Int32) * nI (zis c.2.1) = nI (8 * zis c.2.1) := (Int32.ofNat_mul 8 _).symm
      have e9 : (512 : Int32) + nI (8 * zis c.2.1) = nI (512 + 8 * zis c.2.1) := nI_add 512 _
      rw [e8, e9, nI_add]
      refine s_symCount (by omega) ⟨rfl, fun _ => ?_, fun w => absurd rfl w⟩
      refine k134 c.2.1 0 _ _ (by omega) (zCm_inc hz5 (show 512 + 8 * zis c.2.1 + c.2.2.1 < 1024 by omega)) (fun i => ?_) (fun q hq => by rw [zms_ne hq]; exact hF q hq)
      have := hf i
      unfold zcc1 at this
      show f i + (if 512 + 8 * zis c.2.1 + c.2.2.1 = i then 1 else 0) + _ = _
      rw [Nat.add_zero q, show 512 + 8 * zis c.2.1 + c.2.2.1 = 512 + (8 * zis c.2.1 + c.2.2.1) by omega, ← hcq]
      omega
  have hpe : p ≤ e := by
    have := zch2_n cs p hok.1
    omega
  exact key cs.length 0 p m (fun _ => 0) (by omega) (by rw [List.drop_zero]; exact hok.1) hpe (fun i hi => by rw [hz i hi]; rfl) (fun i => by rw [List.drop_zero]; exact Nat.zero_add _) (fun _ _ => rfl)
end zMcount
