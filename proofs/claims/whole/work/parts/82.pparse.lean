/-! the class parses a block into commands -/
section zPparse
variable {κ : zK} {d : Nat} {Q : Option zV → zM → Prop} {T : List Nat}
def zcn0 : zCmd := (0, 0, 0, 0, 0, 0, 0, 0)
def zcmdC (k : Nat) (c : zCmd) (m : zM) : Prop := m 35 k = nI c.1 ∧ m 36 k = nI c.2.1 ∧ m 37 k = nI c.2.2.1 ∧ m 38 k = nI c.2.2.2.1 ∧ m 39 k = zsI c.2.2.2.2.1 ∧ m 40 k = nI c.2.2.2.2.2.1
def zncp (cs : List zCmd) : Nat := (cs.map (fun c => if c.2.2.2.2.2.2.1 ≠ 0 ∧ c.2.2.2.2.2.2.2 = 0 then 1 else 0)).sum
def znwd (cs : List zCmd) : Nat := (cs.map (fun c => c.2.2.2.2.2.2.2)).sum
def znsy (cs : List zCmd) : Nat := (cs.map (fun c => 1 + c.2.1 + (if c.2.2.2.2.1 = 0 then 0 else 1))).sum
def zPl (cs : List zCmd) (m : zM) : Prop := m 31 8 = nI cs.length ∧ (∀ k, k < cs.length → zcmdC k (cs.getD k zcn0) m) ∧ m 31 9 = nI (zncp cs) ∧ m 31 10 = nI (znwd cs) ∧ m 31 11 = nI (znsy cs)
def zRc (p : Nat) (r : zRg) (m : zM) : Prop := m p 0 = nI r.1 ∧ m p 1 = nI r.2.1 ∧ m p 2 = nI r.2.2.1 ∧ m p 3 = nI r.2.2.2
theorem zRc_of {p : Nat} {r : zRg} {m m' : zM} (h : m' p = m p) (hr : zRc p r m) : zRc p r m' := by
  unfold zRc
  rw [h]
  exact hr
theorem zsI_none {s : Nat} (h : s < 200) : zsI s = -1 ↔ s = 0 := by
  unfold zsI
  constructor
  · intro z
    by_cases hs : s = 0
    · exact hs
    · rw [if_neg hs] at z
      exact absurd z.symm (zneg_nI' (by omega))
  · intro z
    rw [if_pos z]
theorem s_copySymbolOf {m : zM} {mm : Nat} (h2 : mm < 100) (hQ : Q (some (.inl (nI (zcs mm)))) m) : zR κ d Y_Plan_copySymbolOf 0 [some (.inl (nI mm)), none] [] m Q := by
  refine w_Plan_copySymbolOf_0 ?_
  have key : ∀ (r c : Nat), c + r = 6 → zcsu mm r c = zcs mm → zR κ d Y_Plan_copySymbolOf 2 [some (.inl (nI mm)), some (.inl (nI c))] [] m Q := by
    intro r
    induction r with
    | zero =>
      intro c hc hz
      have hz : c = zcs mm := hz
      rw [← hz] at hQ
      exact w_Plan_copySymbolOf_2 ⟨fun _ => hQ, fun z => absurd (show nI 6 ≤ nI c from nI_le (by omega) (by omega)) z⟩
    | succ r ih =>
      intro c hc hz
      rw [zcsu] at hz
      obtain ⟨t5, t6, t7, t8⟩ := tv2_nI ⟨c + 1, by omega⟩
      have t5 : tv_2.getD (c + 1) 0 = nI (zCB.getD (c + 1) 0) := t5
      have t8 : zCB.getD (c + 1) 0 ≤ 26 := t8
      refine w_Plan_copySymbolOf_2 ⟨fun z => absurd z (show ¬ nI 6 ≤ nI c from nI_ge (by omega) (by decide)), fun _ => ?_⟩
      rw [nI_1, nI_clamp (by omega), t5]
      refine ⟨vp_in_nI (by omega) (by decide), fun z => ?_, fun z => ?_⟩
      · have z := (nI_ltI (by omega) (by omega)).mp z
        rw [if_neg (by omega)] at hz
        rw [← hz] at hQ
        exact hQ
      · have z : ¬ mm < zCB.getD (c + 1) 0 := fun w => z (nI_lt w (by omega))
        rw [if_pos (by omega)] at hz
        exact ih (c + 1) (by omega) hz
  exact key 6 0 rfl rfl
theorem s_plain {m : zM} {dd : Nat} (h2 : dd < 140) (hQ : Q (some (.inl (nI (zps dd)))) m) : zR κ d Y_Ring_plainSymbolOf 0 [some (.inl (nI dd)), none] [] m Q := by
  refine w_Ring_plainSymbolOf_0 ?_
  have key : ∀ (r s : Nat), s + r = 13 → zpsu dd r s = zps dd → zR κ d Y_Ring_plainSymbolOf 3 [some (.inl (nI dd)), some (.inl (nI s))] [] m Q := by
    intro r
    induction r with
    | zero =>
      intro s hs hz
      have hz : s = zps dd := hz
      rw [← hz] at hQ
      refine w_Ring_plainSymbolOf_3 ⟨fun _ => hQ, fun z => ?_⟩
      rw [nI_1] at z
      exact absurd (show nI 14 ≤ nI (s + 1) from nI_le (by omega) (by omega)) z
    | succ r ih =>
      intro s hs hz
      rw [zpsu] at hz
      obtain ⟨t1, t2, t3, t4, t5⟩ := tv4_nI ⟨s + 1, by omega⟩
      have t1 : tv_4.getD (s + 1) 0 = nI (zDB.getD (s + 1) 0) := t1
      have t4 : zDB.getD (s + 1) 0 ≤ 65 := t4
      refine w_Ring_plainSymbolOf_3 ⟨fun z => ?_, fun _ => ?_⟩
      · rw [nI_1] at z
        exact absurd z (show ¬ nI 14 ≤ nI (s + 1) from nI_ge (by omega) (by decide))
      rw [nI_1, nI_clamp (by omega), t1]
      refine ⟨vp_in_nI (by omega) (by decide), fun z => ?_, fun z => ?_⟩
      · have z := (nI_ltI (by omega) (by omega)).mp z
        rw [if_neg (by omega)] at hz
        rw [← hz] at hQ
        exact hQ
      · have z : ¬ dd < zDB.getD (s + 1) 0 := fun w => z (nI_lt w (by omega))
        rw [if_pos (by omega)] at hz
        exact ih (s + 1) (by omega) hz
  exact key 7 6 rfl rfl
theorem s_distG {c : Nat} {m : zM} {r : zRg} {s : Nat} (hc : is_Ring c) (hr : zRc (c + 1) r m) (hp : zRp r) (hs : s < 6) (hQ : Q (some (.inl (nI (zrg r s)))) m) : zR κ d Y_Ring_distanceOf 0 [some (.inr c), some (.inl (nI s))] [] m Q := by
  obtain ⟨r0, r1, r2, r3⟩ := hr
  refine w_Ring_distanceOf_0 hc ?_
  have hlow : ∀ k, k < 4 → s = k → m (c + 1) k = nI (zrg r s) → ((¬ nI s = 4 → ((¬ nI s = 5 → ((nI s < 0 → Q (some (.inl 0)) m) ∧ (¬ nI s < 0 → ((4 ≤ nI s → Q (some (.inl 0)) m) ∧ (¬ 4 ≤ nI s → vp_in (nI s) 4 ∧ Q (some (.inl (m (c + 1) (nI s).toNatClampNeg))) m))))) ∧ (nI s = 5 → Q (some (.inl (m (c + 1) 0 + 1))) m))) ∧ (nI s = 4 → Q (some (.inl (m (c + 1) 0 - 1))) m)) := by
    intro k hk hsk hv
    refine ⟨fun _ => ⟨fun _ => ⟨fun z => absurd z (nI_pos (by omega)), fun _ => ⟨fun z => absurd z (show ¬ nI 4 ≤ nI s from nI_ge (by omega) (by decide)), fun _ => ⟨vp_in_nI (by omega) (by decide), ?_⟩⟩⟩, fun z => absurd ((nI_eq (by omega) (by decide)).mp z) (show ¬ s = 5 by omega)⟩, fun z => absurd ((nI_eq (by omega) (by decide)).mp z) (show ¬ s = 4 by omega)⟩
    rw [nI_clamp (by omega), hsk, hv]
    exact hQ
  rcases (show s = 0 ∨ s = 1 ∨ s = 2 ∨ s = 3 ∨ s = 4 ∨ s = 5 by omega) with h | h | h | h | h | h
  · exact hlow 0 (by decide) h (by rw [h]; exact r0)
  · exact hlow 1 (by decide) h (by rw [h]; exact r1)
  · exact hlow 2 (by decide) h (by rw [h]; exact r2)
  · exact hlow 3 (by decide) h (by rw [h]; exact r3)
  · subst h
    refine ⟨fun z => absurd rfl z, fun _ => ?_⟩
    show Q (some (.inl (m (c + 1) 0 - nI 1))) m
    rw [r0, nI_sub hp.1.1]
    exact hQ
  · subst h
    refine ⟨fun _ => ⟨fun z => absurd rfl z, fun _ => ?_⟩, fun z => absurd z (by decide)⟩
    show Q (some (.inl (m (c + 1) 0 + nI 1))) m
    rw [r0, nI_add]
    exact hQ
theorem s_symbolOf {c : Nat} {m : zM} {r : zRg} {dd : Nat} (hc : is_Ring c) (hr : zRc (c + 1) r m) (hp : zRp r) (hd : dd < 140) (hQ : Q (some (.inl (nI (zrsy r dd)))) m) : zR κ (d + 1) Y_Ring_symbolOf 0 [some (.inr c), some (.inl (nI dd)), none] [] m Q := by
  refine w_Ring_symbolOf_0 hc ?_
  -- one symbol after the other
  have step : ∀ s, s < 6 → (zrg r s = dd → Q (some (.inl (nI s))) m) → (¬ zrg r s = dd → zR κ (d + 1) Y_Ring_symbolOf 2 [some (.inr c), some (.inl (nI dd)), some (.inl (nI (s + 1)))] [] m Q) → zR κ (d + 1) Y_Ring_symbolOf 2 [some (.inr c), some (.inl (nI dd)), some (.inl (nI s))] [] m Q := by
    intro s hs h1 h2
    have hle := zrg_le (s := s) hp
    refine w_Ring_symbolOf_2 hc ⟨fun z => absurd z (show ¬ nI 6 ≤ nI s from nI_ge hs (by decide)), fun _ => s_distG hc hr hp hs ⟨_, rfl, fun z => ?_, fun z => h1 ((nI_eq (by omega) (by omega)).mp z)⟩⟩
    rw [nI_1]
    exact h2 (fun w => z (by rw [w]))
  unfold zrsy at hQ
  refine step 0 (by decide) (fun (z : r.1 = dd) => ?_) (fun (z0 : ¬ r.1 = dd) => step 1 (by decide) (fun (z : r.2.1 = dd) => ?_) (fun (z1 : ¬ r.2.1 = dd) => step 2 (by decide) (fun (z : r.2.2.1 = dd) => ?_) (fun (z2 : ¬ r.2.2.1 = dd) => step 3 (by decide) (fun (z : r.2.2.2 = dd) => ?_) (fun (z3 : ¬ r.2.2.2 = dd) => step 4 (by decide) (fun (z : r.1 - 1 = dd) => ?_) (fun (z4 : ¬ r.1 - 1 = dd) => step 5 (by decide) (fun (z : r.1 + 1 = dd) => ?_) (fun (z5 : ¬ r.1 + 1 = dd) => ?_))))))
  · rw [if_pos z] at hQ
    exact hQ
  · rw [if_neg z0, if_pos z] at hQ
    exact hQ
  · rw [if_neg z0, if_neg z1, if_pos z] at hQ
    exact hQ
  · rw [if_neg z0, if_neg z1, if_neg z2, if_pos z] at hQ
    exact hQ
  · rw [if_neg z0, if_neg z1, if_neg z2, if_neg z3, if_pos z] at hQ
    exact hQ
  · rw [if_neg z0, if_neg z1, if_neg z2, if_neg z3, if_neg z4, if_pos z] at hQ
    exact hQ
  · rw [if_neg z0, if_neg z1, if_neg z2, if_neg z3, if_neg z4, if_neg z5] at hQ
    exact w_Ring_symbolOf_2 hc ⟨fun _ => s_plain hd ⟨_, rfl, hQ⟩, fun z => absurd (show nI 6 ≤ nI 6 from Int32.le_refl _) z⟩
set_option maxHeartbeats 1000000 in
theorem s_addCommand {m : zM} {n lf le c mm s1 dd y w : Nat} (h8 : m 31 8 = nI n) (hn : n < 48) (hlf : lf ≤ le) (hs1 : s1 < 200)
    (hQ : ∀ m', (∀ p, p ≠ 31 → (p < 35 ∨ 40 < p) → m' p = m p) → (∀ i, i ≠ 8 → i ≠ 11 → m' 31 i = m 31 i) → (∀ p k, 35 ≤ p → p ≤ 40 → k ≠ n → m' p k = m p k) → zcmdC n (lf, le - lf, c, mm, s1, dd, y, w) m' → m' 31 8 = nI (n + 1) → m' 31 11 = m 31 11 + nI (1 + (le - lf) + if s1 = 0 then 0 else 1) → Q none m') :
    zR κ d Y_Plan_addCommand 0 [some (.inr 31), some (.inl (nI lf)), some (.inl (nI le)), some (.inl (nI c)), some (.inl (nI mm)), some (.inl (zsI s1)), some (.inl (nI dd))] [] m Q := by
  refine w_Plan_addCommand_0 ⟨fun _ => ?_, fun z => ?_⟩
  · rw [h8, nI_clamp (by omega), nI_1]
    have hin : vp_in (nI n) 48 := vp_in_nI hn (by decide)
    have e1 : (1 : Int32) + nI le - nI lf = nI (1 + (le - lf)) := by
      rw [show (1 : Int32) + nI le = nI (1 + le) from nI_add 1 le, nI_sub (by omega)]
      congr 1
      omega
    rw [e1, nI_sub hlf]
    have fin : ∀ x : Int32, x = nI (1 + (le - lf) + if s1 = 0 then 0 else 1) → Q none (zms (zms (zms (zms (zms (zms (zms (zms m 35 n (nI lf)) 36 n (nI (le - lf))) 37 n (nI c)) 38 n (nI mm)) 39 n (zsI s1)) 40 n (nI dd)) 31 8 (nI (n + 1))) 31 11 (m 31 11 + x)) := by
      intro x hx
      refine hQ _ (fun p p1 p2 => ?_) (fun i i1 i2 => ?_) (fun p k p1 p2 hk => ?_) ⟨?_, ?_, ?_, ?_, ?_, ?_⟩ ?_ ?_
      · rw [zms_ne p1, zms_ne p1, zms_ne (by omega), zms_ne (by omega), zms_ne (by omega), zms_ne (by omega), zms_ne (by omega), zms_ne (by omega)]
      · rw [zms_nk i2, zms_nk i1, zms_ne (by decide), zms_ne (by decide), zms_ne (by decide), zms_ne (by decide), zms_ne (by decide), zms_ne (by decide)]
      · rw [zms_ne (by omega), zms_ne (by omega)]
        rcases (show p = 35 ∨ p = 36 ∨ p = 37 ∨ p = 38 ∨ p = 39 ∨ p = 40 by omega) with rfl | rfl | rfl | rfl | rfl | rfl
        · rw [zms_ne (by decide), zms_ne (by decide), zms_ne (by decide), zms_ne (by decide), zms_ne (by decide), zms_nk hk]
        · rw [zms_ne (by decide), zms_ne (by decide), zms_ne (by decide), zms_ne (by decide), zms_nk hk, zms_ne (by decide)]
        · rw [zms_ne (by decide), zms_ne (by decide), zms_ne (by decide), zms_nk hk, zms_ne (by decide), zms_ne (by decide)]
        · rw [zms_ne (by decide), zms_ne (by decide), zms_nk hk, zms_ne (by decide), zms_ne (by decide), zms_ne (by decide)]
        · rw [zms_ne (by decide), zms_nk hk, zms_ne (by decide), zms_ne (by decide), zms_ne (by decide), zms_ne (by decide)]
        · rw [zms_nk hk, zms_ne (by decide), zms_ne (by decide), zms_ne (by decide), zms_ne (by decide), zms_ne (by decide)]
      · rw [zms_ne (by decide), zms_ne (by decide), zms_ne (by decide), zms_ne (by decide), zms_ne (by decide), zms_ne (by decide), zms_ne (by decide), zms_ss]
      · rw [zms_ne (by decide), zms_ne (by decide), zms_ne (by decide), zms_ne (by decide), zms_ne (by decide), zms_ne (by decide), zms_ss]
      · rw [zms_ne (by decide), zms_ne (by decide), zms_ne (by decide), zms_ne (by decide), zms_ne (by decide), zms_ss]
      · rw [zms_ne (by decide), zms_ne (by decide), zms_ne (by decide), zms_ne (by decide), zms_ss]
      · rw [zms_ne (by decide), zms_ne (by decide), zms_ne (by decide), zms_ss]
      · rw [zms_ne (by decide), zms_ne (by decide), zms_ss]
      · rw [zms_nk (by decide), zms_ss]
      · rw [zms_ss, hx]
    refine ⟨hin, hin, hin, hin, hin, hin, fun z => ?_, fun z => ?_⟩
    · refine fin (nI (1 + (le - lf)) + 1) ?_
      rw [if_neg (fun q => z ((zsI_none hs1).mpr q)), nI_1]
    · refine fin (nI (1 + (le - lf)) + 0) ?_
      rw [if_pos ((zsI_none hs1).mp z)]
      exact nI_add _ 0
  · rw [h8] at z
    exact absurd (show nI n < nI 48 from nI_lt hn (by decide)) z
theorem zsum_app {α : Type} {f : α → Nat} {l : List α} {a : α} : ((l ++ [a]).map f).sum = (l.map f).sum + f a := by
  rw [List.map_append, List.sum_append]
  simp
theorem zPl_add {cs : List zCmd} {c : zCmd} {m m' : zM} (h : zPl cs m) (h1 : ∀ p k, 35 ≤ p → p ≤ 40 → k ≠ cs.length → m' p k = m p k) (h2 : zcmdC cs.length c m') (h8 : m' 31 8 = nI (cs.length + 1)) (h9 : m' 31 9 = m 31 9 + nI (if c.2.2.2.2.2.2.1 ≠ 0 ∧ c.2.2.2.2.2.2.2 = 0 then 1 else 0)) (h10 : m' 31 10 = m 31 10 + nI c.2.2.2.2.2.2.2) (h11 : m' 31 11 = m 31 11 + nI (1 + c.2.1 + (if c.2.2.2.2.1 = 0 then 0 else 1))) : zPl (cs ++ [c]) m' := by
  obtain ⟨a1, a2, a3, a4, a5⟩ := h
  refine ⟨by rw [h8, List.length_append, List.length_singleton], fun k hk => ?_, ?_, ?_, ?_⟩
  · rw [List.length_append, List.length_singleton] at hk
    by_cases hke : k = cs.length
    · subst hke
      rw [zgd_right _ _ _ (Nat.le_refl _), Nat.sub_self]
      exact h2
    · rw [zgd_left _ _ _ (show k < cs.length by omega)]
      obtain ⟨b1, b2, b3, b4, b5, b6⟩ := a2 k (by omega)
      exact ⟨by rw [h1 35 k (by decide) (by decide) hke]; exact b1, by rw [h1 36 k (by decide) (by decide) hke]; exact b2, by rw [h1 37 k (by decide) (by decide) hke]; exact b3, by rw [h1 38 k (by decide) (by decide) hke]; exact b4, by rw [h1 39 k (by decide) (by decide) hke]; exact b5, by rw [h1 40 k (by decide) (by decide) hke]; exact b6⟩
  · rw [h9, a3, nI_add]
    unfold zncp
    rw [zsum_app]
  · rw [h10, a4, nI_add]
    unfold znwd
    rw [zsum_app]
  · rw [h11, a5, nI_add]
    unfold znsy
    rw [zsum_app]
/-- what the class's parse leaves alone -/
def zFp (m m' : zM) : Prop := ∀ p, p ≠ 31 → p ≠ 32 → (p < 34 ∨ 40 < p) → m' p = m p
theorem zFp.tr {m m' m'' : zM} (h : zFp m m') (h' : zFp m' m'') : zFp m m'' := fun p a b c => (h' p a b c).trans (h p a b c)
theorem zps_in {dd : Nat} (h1 : 1 ≤ dd) (h2 : dd < 140) : zpsd dd 7 13 = zps dd ∧ 6 ≤ zps dd ∧ zps dd < 14 ∧ zDB.getD (zps dd) 0 ≤ dd := zps_eq ⟨dd, h2⟩ h1
theorem zrsy_lt {r : zRg} {dd : Nat} (h1 : 1 ≤ dd) (h2 : dd < 140) : zrsy r dd < 14 := by
  have := (zps_in h1 h2).2.2.1
  unfold zrsy
  repeat' split
  all_goals omega
set_option maxHeartbeats 4000000 in
theorem s_parse_loop {e p : Nat} {m0 : zM} (he : e ≤ T.length) (h96 : T.length ≤ 96) (hp48 : e ≤ p + 48) {fin : List zCmd × zRg} (hQ : ∀ m', zPl fin.1 m' → zRc 34 fin.2 m' → zRp fin.2 → zFp m0 m' → Q none m') :
    ∀ (t k q lf : Nat) (r : zRg) (cs : List zCmd) (m : zM), k + t = 48 → e - q ≤ t → lf ≤ q → q ≤ e → 3 * cs.length + p ≤ lf → zTx T m → zPl cs m → zRc 34 r m → zRp r → zFp m0 m → zpar T e t q lf r cs = fin →
    zR κ (d + 7) Y_Plan_parse 38 [some (.inr 31), some (.inr 1), some (.inl (nI p)), some (.inl (nI e)), some (.inr 8), some (.inl (nI lf)), some (.inl (nI q)), some (.inl (nI k))] [] m Q := by
  -- the literals that are left
  have k156 : ∀ (k q lf : Nat) (r : zRg) (cs : List zCmd) (m : zM), lf ≤ e → 3 * cs.length + p ≤ lf → zPl cs m → zRc 34 r m → zRp r → zFp m0 m → (zfinc e lf cs, r) = fin → zR κ (d + 6 + 1) Y_Plan_parse 156 [some (.inr 31), some (.inr 1), some (.inl (nI p)), some (.inl (nI e)), some (.inr 8), some (.inl (nI lf)), some (.inl (nI q)), some (.inl (nI k))] [] m Q := by
    intro k q lf r cs m hle h3 hP hr hp hF hz
    subst hz
    refine w_Plan_parse_156 is_Text_1 is_Ring_8 ⟨fun z => ?_, fun z => ?_⟩
    · have z := (nI_leI (by omega) (by omega)).mp z
      refine hQ m ?_ hr hp hF
      show zPl (zfinc e lf cs) m
      unfold zfinc
      rw [if_neg (by omega)]
      exact hP
    · have z : lf < e := by
        rcases Nat.lt_or_ge lf e with w | w
        · exact w
        · exact absurd (nI_le w (by omega)) z
      refine s_addCommand (n := cs.length) (lf := lf) (le := e) (c := 0) (mm := 2) (s1 := 0) (dd := 0) (y := 0) (w := 0) hP.1 (by omega) (by omega) (by decide) (fun m' a1 a2 a3 a4 a5 a6 => ⟨rfl, hQ m' ?_ ?_ hp (hF.tr (fun p p1 p2 p3 => a1 p p1 (by omega)))⟩)
      · show zPl (zfinc e lf cs) m'
        unfold zfinc
        rw [if_pos z]
        exact zPl_add hP a3 a4 a5 (by rw [a2 9 (by decide) (by decide)]; exact (Int32.add_zero _).symm) (by rw [a2 10 (by decide) (by decide)]; exact (Int32.add_zero _).symm) a6
      · exact zRc_of (a1 34 (by decide) (by decide)) hr
  intro t
  induction t with
  | zero =>
    intro k q lf r cs m hk ht h1 h2 h3 hT hP hr hp hF hz
    exact w_Plan_parse_38 is_Text_1 is_Ring_8 ⟨fun _ => k156 k q lf r cs m (by omega) h3 hP hr hp hF hz, fun z => absurd (show nI 48 ≤ nI k from nI_le (by omega) (by omega)) z⟩
  | succ t ih =>
    intro k q lf r cs m hk ht h1 h2 h3 hT hP hr hp hF hz
    rw [zpar] at hz
    refine w_Plan_parse_38 is_Text_1 is_Ring_8 ⟨fun z => absurd z (show ¬ nI 48 ≤ nI k from nI_ge (by omega) (by decide)), fun _ => ⟨fun z => ?_, fun z => ?_⟩⟩
    · have z := (nI_leI (by omega) (by omega)).mp z
      rw [if_pos z] at hz
      exact k156 k q lf r cs m (by omega) h3 hP hr hp hF hz
    have hqe : q < e := by
      rcases Nat.lt_or_ge q e with w | w
      · exact w
      · exact absurd (nI_le w (by omega)) z
    rw [if_neg (by omega)] at hz
    obtain ⟨c1, c2⟩ := zcpy_in (T := T) (q := q) (e := e)
    have w1 := zwrd_in (T := T) (q := q) (e := e)
    refine s_findCopy hT h2 he (fun m1 a1 a2 a3 => ⟨rfl, s_findWord (zTx_of (a1 1 (by decide)) (a1 2 (by decide)) hT) h2 he (fun m2 b1 b2 b3 b4 b5 => ⟨rfl, ?_⟩)⟩)
    have hF2 : ∀ p, p ≠ 32 → m2 p = m p := fun p hp => (b1 p hp).trans (a1 p hp)
    have e0 : m2 32 0 = nI (zcpy T q e).1 := by rw [b2 0 (by decide)]; exact a2
    have e1 : m2 32 1 = nI (zcpy T q e).2 := by rw [b2 1 (by decide)]; exact a3
    have hT2 : zTx T m2 := zTx_of (hF2 1 (by decide)) (hF2 2 (by decide)) hT
    have hP2 : zPl cs m2 := by
      unfold zPl zcmdC at hP ⊢
      rw [hF2 31 (by decide), hF2 35 (by decide), hF2 36 (by decide), hF2 37 (by decide), hF2 38 (by decide), hF2 39 (by decide), hF2 40 (by decide)]
      exact hP
    have hr2 : zRc 34 r m2 := zRc_of (hF2 34 (by decide)) hr
    have hFp2 : zFp m0 m2 := hF.tr (fun p p1 p2 p3 => hF2 p p2)
    clear a1 a2 a3 b1 b2 hP hT hr hF hF2 m1
    generalize hC : zcpy T q e = C at *
    generalize hW : zwrd T q e = W at *
    unfold zWok at w1
    have w6 : W.1 ≤ 6 := by
      rcases Nat.eq_zero_or_pos W.1 with g | g
      · omega
      · exact (w1 g).2.1
    -- no word
    have kno : ¬ (4 ≤ W.1 ∧ C.1 < W.1) → zR κ (d + 6) Y_Finder_isCopy 0 [some (.inr 32)] [] m2 (fun r m5 => ∃ y6 : Int32, r = some (.inl y6) ∧ ((y6 = 0 → zR κ (d + 6 + 1) Y_Plan_parse 38 [some (.inr 31), some (.inr 1), some (.inl (nI p)), some (.inl (nI e)), some (.inr 8), some (.inl (nI lf)), some (.inl (nI q + 1)), some (.inl (nI k + 1))] [] m5 Q) ∧ (¬ y6 = 0 → zR κ (d + 6) Y_Plan_addCopy 0 [some (.inr 31), some (.inl (nI lf)), some (.inl (nI q)), none, none, none] [] m5 (fun r m7 => r = none ∧ zR κ (d + 6 + 1) Y_Plan_parse 38 [some (.inr 31), some (.inr 1), some (.inl (nI p)), some (.inl (nI e)), some (.inr 8), some (.inl (nI q + (m7 32 0))), some (.inl (nI q + (m7 32 0))), some (.inl (nI k + 1))] [] m7 Q)))) := by
      intro hno
      rw [if_neg hno] at hz
      refine w_Finder_isCopy_0 ⟨fun z => ⟨_, rfl, fun _ => ?_, fun z => absurd rfl z⟩, fun z => ⟨_, rfl, fun z => absurd z (by decide), fun _ => ?_⟩⟩
      · rw [e0] at z
        have z := (nI_ltI (by omega) (by decide)).mp (show nI C.1 < nI 3 from z)
        rw [if_neg (by omega)] at hz
        rw [nI_1, nI_1]
        exact ih (k + 1) (q + 1) lf r cs m2 (by omega) (by omega) (by omega) (by omega) h3 hT2 hP2 hr2 hp hFp2 hz
      · rw [e0] at z
        have z : 3 ≤ C.1 := by
          rcases Nat.lt_or_ge C.1 3 with g | g
          · exact absurd (show nI C.1 < nI 3 from nI_lt g (by decide)) z
          · exact g
        rw [if_pos z] at hz
        obtain ⟨d1, d2⟩ := c2 (by omega)
        -- one copy more
        have hst : ∀ m3 : zM, (∀ p, p ≠ 31 → m3 p = m2 p) → (∀ i, i ≠ 9 → m3 31 i = m2 31 i) → True := fun _ _ _ => trivial
        have hnine : (zms m2 31 9 (m2 31 9 + 1)) 31 9 = m2 31 9 + nI 1 := zms_ss
        have knext : ∀ (m7 : zM) (r7 : zRg) (cs7 : List zCmd), zpar T e t (q + C.1) (q + C.1) r7 cs7 = fin → cs7.length = cs.length + 1 → zPl cs7 m7 → zRc 34 r7 m7 → zRp r7 → zFp m2 m7 → m7 32 = m2 32 → zR κ (d + 6 + 1) Y_Plan_parse 38 [some (.inr 31), some (.inr 1), some (.inl (nI p)), some (.inl (nI e)), some (.inr 8), some (.inl (nI q + (m7 32 0))), some (.inl (nI q + (m7 32 0))), some (.inl (nI k + 1))] [] m7 Q := by
          intro m7 r7 cs7 g1 g2 g3 g4 g5 g6 g7
          rw [g7, e0, nI_add, nI_1]
          exact ih (k + 1) (q + C.1) (q + C.1) r7 cs7 m7 (by omega) (by omega) (by omega) (by omega) (by omega) (zTx_of (g6 1 (by decide) (by decide) (by decide)) (g6 2 (by decide) (by decide) (by decide)) hT2) g3 g4 g5 (hFp2.tr g6) g1
        have k57 : ¬ (C.1 = 3 ∧ r.1 = C.2) → ∀ m3 : zM, m3 = zms m2 31 9 (m2 31 9 + 1) → zR κ (d + 5 + 1) Y_Plan_addCopy 57 [some (.inr 31), some (.inl (nI lf)), some (.inl (nI q)), some (.inl (nI C.1)), some (.inl (nI C.2)), none] [] m3 (fun r m7 => r = none ∧ zR κ (d + 6 + 1) Y_Plan_parse 38 [some (.inr 31), some (.inr 1), some (.inl (nI p)), some (.inl (nI e)), some (.inr 8), some (.inl (nI q + (m7 32 0))), some (.inl (nI q + (m7 32 0))), some (.inl (nI k + 1))] [] m7 Q) := by
          intro hnl m3 hm3
          rw [if_neg hnl] at hz
          have hs14 := zrsy_lt (r := r) d1 (show C.2 < 140 by omega)
          have f3 : ∀ p, p ≠ 31 → m3 p = m2 p := fun p hp => by rw [hm3]; exact zms_ne hp
          refine w_Plan_addCopy_57 (s_symbolOf is_Ring_33 (zRc_of (f3 34 (by decide)) hr2) hp (by omega) ⟨_, rfl, s_copySymbolOf (by omega) ⟨_, rfl, ?_⟩⟩)
          have hsI : nI (zrsy r C.2) = zsI (zrsy r C.2 + 1) := by
            unfold zsI
            rw [if_neg (by omega), Nat.add_sub_cancel]
          rw [hsI]
          refine s_addCommand (n := cs.length) (lf := lf) (le := q) (c := zcs C.1) (mm := C.1) (s1 := zrsy r C.2 + 1) (dd := C.2) (y := C.1) (w := 0) (by rw [hm3, zms_nk (by decide)]; exact hP2.1) (by omega) h1 (by omega) (fun m4 g1 g2 g3 g4 g5 g6 => ⟨rfl, ?_⟩)
          have hPl4 : zPl (cs ++ [(lf, q - lf, zcs C.1, C.1, zrsy r C.2 + 1, C.2, C.1, 0)]) m4 := by
            refine zPl_add hP2 (fun p k p1 p2 hk => by rw [g3 p k p1 p2 hk, f3 p (by omega)]) g4 g5 ?_ ?_ ?_
            · rw [g2 9 (by decide) (by decide), hm3, zms_ss]
              show m2 31 9 + 1 = m2 31 9 + nI (if C.1 ≠ 0 ∧ 0 = 0 then 1 else 0)
              rw [if_pos ⟨by omega, rfl⟩] <;> rfl
            · rw [g2 10 (by decide) (by decide), hm3, zms_nk (by decide)]
              exact (Int32.add_zero _).symm
            · rw [g6, hm3, zms_nk (by decide)]
          have hF4 : zFp m2 m4 := fun p p1 p2 p3 => by rw [g1 p p1 (by omega)]; exact f3 p p1
          have h32 : m4 32 = m2 32 := by rw [g1 32 (by decide) (by decide)]; exact f3 32 (by decide)
          have hr4 : zRc 34 r m4 := zRc_of (by rw [g1 34 (by decide) (by decide)]; exact f3 34 (by decide)) hr2
          rw [← hsI]
          refine ⟨fun z0 => ?_, fun z0 => ?_⟩
          · have z0 : zrsy r C.2 = 0 := (nI_eq (by omega) (by decide)).mp z0
            rw [if_pos z0] at hz
            exact ⟨rfl, knext m4 r _ hz (by rw [List.length_append, List.length_singleton]) hPl4 hr4 hp hF4 h32⟩
          · have z0 : ¬ zrsy r C.2 = 0 := fun w => z0 (by rw [w]; rfl)
            rw [if_neg z0] at hz
            refine s_remember is_Ring_33 (fun m5 u1 u2 u3 u4 u5 => ⟨rfl, rfl, knext m5 (zrem r C.2) _ hz (by rw [List.length_append, List.length_singleton]) ?_ ?_ ?_ ?_ ?_⟩)
            · unfold zPl zcmdC at hPl4 ⊢
              rw [u1 31 (by decide), u1 35 (by decide), u1 36 (by decide), u1 37 (by decide), u1 38 (by decide), u1 39 (by decide), u1 40 (by decide)]
              exact hPl4
            · obtain ⟨v0, v1, v2, v3⟩ := hr4
              exact ⟨u2, u3.trans v0, u4.trans v1, u5.trans v2⟩
            · exact ⟨⟨d1, by show C.2 ≤ 200; omega⟩, hp.1, hp.2.1, hp.2.2.1⟩
            · exact hF4.tr (fun p p1 p2 p3 => u1 p (by omega))
            · rw [u1 32 (by decide)]
              exact h32
        refine w_Plan_addCopy_0 ?_
        rw [e0, e1]
        refine ⟨fun z3 => k57 (fun w => z3 (by rw [w.1]; rfl)) _ rfl, fun z3 => ?_⟩
        have z3 : C.1 = 3 := (nI_eq (by omega) (by decide)).mp z3
        have e34 : (zms m2 31 9 (m2 31 9 + 1)) 34 0 = nI r.1 := by rw [zms_ne (by decide)]; exact hr2.1
        have hr1 := hp.1.2
        refine w_Ring_isLatest_0 is_Ring_33 ⟨fun zl => ⟨_, rfl, fun _ => k57 (fun w => zl ?_) _ rfl, fun z => absurd rfl z⟩, fun zl => ⟨_, rfl, fun z => absurd z (by decide), fun _ => ?_⟩⟩
        · show (zms m2 31 9 (m2 31 9 + 1)) 34 0 = nI C.2
          rw [e34, w.2]
        · have zl : r.1 = C.2 := by
            have zl : (zms m2 31 9 (m2 31 9 + 1)) 34 0 = nI C.2 := zl
            rw [e34] at zl
            exact (nI_eq (by omega) (by omega)).mp zl
          rw [if_pos ⟨z3, zl⟩] at hz
          refine s_addCommand (n := cs.length) (lf := lf) (le := q) (c := 7) (mm := C.1) (s1 := 0) (dd := C.2) (y := C.1) (w := 0) (by rw [zms_nk (by decide)]; exact hP2.1) (by omega) h1 (by decide) (fun m4 g1 g2 g3 g4 g5 g6 => ⟨rfl, rfl, ?_⟩)
          refine knext m4 r _ hz (by rw [List.length_append, List.length_singleton]) ?_ (zRc_of (by rw [g1 34 (by decide) (by decide)]; exact zms_ne (by decide)) hr2) hp (fun p p1 p2 p3 => by rw [g1 p p1 (by omega)]; exact zms_ne p1) (by rw [g1 32 (by decide) (by decide)]; exact zms_ne (by decide))
          refine zPl_add hP2 (fun p k p1 p2 hk => by rw [g3 p k p1 p2 hk, zms_ne (by omega)]) g4 g5 ?_ ?_ ?_
          · rw [g2 9 (by decide) (by decide), zms_ss]
            show m2 31 9 + 1 = m2 31 9 + nI (if C.1 ≠ 0 ∧ 0 = 0 then 1 else 0)
            rw [if_pos ⟨by omega, rfl⟩] <;> rfl
          · rw [g2 10 (by decide) (by decide), zms_nk (by decide)]
            exact (Int32.add_zero _).symm
          · rw [g6, zms_nk (by decide)]
    refine w_Finder_isWord_0 ?_
    rw [b3, e0]
    refine ⟨fun z4 => ⟨_, rfl, fun _ => kno (fun w => ?_), fun z => absurd rfl z⟩, fun z4 => ⟨fun z5 => ⟨_, rfl, fun _ => kno (fun w => ?_), fun z => absurd rfl z⟩, fun z5 => ⟨_, rfl, fun z => absurd z (by decide), fun _ => ?_⟩⟩⟩
    · have z4 := (nI_ltI (by omega) (by decide)).mp (show nI W.1 < nI 4 from z4)
      omega
    · have z5 := (nI_leI (by omega) (by omega)).mp z5
      omega
    · have z4 : 4 ≤ W.1 := by
        rcases Nat.lt_or_ge W.1 4 with g | g
        · exact absurd (show nI W.1 < nI 4 from nI_lt g (by decide)) z4
        · exact g
      have z5 : C.1 < W.1 := by
        rcases Nat.lt_or_ge C.1 W.1 with g | g
        · exact g
        · exact absurd (nI_le g (by omega)) z5
      rw [if_pos ⟨z4, z5⟩] at hz
      obtain ⟨v1, v2, v3, v4⟩ := w1 (by omega)
      obtain ⟨s1, s2, s3, s4⟩ := zps_in (dd := q + 1 + W.2.2) (by omega) (by omega)
      refine w_Plan_addWord_0 ?_
      rw [b4, b5, nI_1, nI_add]
      refine s_copySymbolOf (by omega) ⟨_, rfl, s_plain (by omega) ⟨_, rfl, ?_⟩⟩
      have hsI : nI (zps (q + 1 + W.2.2)) = zsI (zps (q + 1 + W.2.2) + 1) := by
        unfold zsI
        rw [if_neg (by omega), Nat.add_sub_cancel]
      rw [hsI]
      refine s_addCommand (n := cs.length) (lf := lf) (le := q) (c := zcs W.2.1) (mm := W.2.1) (s1 := zps (q + 1 + W.2.2) + 1) (dd := q + 1 + W.2.2) (y := W.1) (w := 1) hP2.1 (by omega) h1 (by omega) (fun m4 g1 g2 g3 g4 g5 g6 => ⟨rfl, rfl, ?_⟩)
      have h32 : (zms m4 31 10 (m4 31 10 + 1)) 32 2 = nI W.1 := by rw [zms_ne (by decide), g1 32 (by decide) (by decide)]; exact b3
      rw [h32, nI_add, nI_1]
      refine ih (k + 1) (q + W.1) (q + W.1) r _ _ (by omega) (by omega) (by omega) (by omega) (by rw [List.length_append, List.length_singleton]; omega) (zTx_of (by rw [zms_ne (by decide)]; exact g1 1 (by decide) (by decide)) (by rw [zms_ne (by decide)]; exact g1 2 (by decide) (by decide)) hT2) ?_ (zRc_of (by rw [zms_ne (by decide)]; exact g1 34 (by decide) (by decide)) hr2) hp (hFp2.tr (fun p p1 p2 p3 => by rw [zms_ne p1]; exact g1 p p1 (by omega))) hz
      refine zPl_add hP2 (fun p k p1 p2 hk => by rw [zms_ne (by omega)]; exact g3 p k p1 p2 hk) ?_ (by rw [zms_nk (by decide)]; exact g5) ?_ ?_ ?_
      · unfold zcmdC at g4 ⊢
        rw [zms_ne (by decide), zms_ne (by decide), zms_ne (by decide), zms_ne (by decide), zms_ne (by decide), zms_ne (by decide)]
        exact g4
      · rw [zms_nk (by decide), g2 9 (by decide) (by decide)]
        show m2 31 9 = m2 31 9 + nI (if W.1 ≠ 0 ∧ 1 = 0 then 1 else 0)
        rw [if_neg (fun w => absurd w.2 (by decide))]
        exact (Int32.add_zero _).symm
      · rw [zms_ss, g2 10 (by decide) (by decide)] <;> rfl
      · rw [zms_nk (by decide)]
        exact g6
end zPparse
