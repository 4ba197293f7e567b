/-! the symbols are counted, on both sides -/
section zCount
variable {κ : zK} {d : Nat} {Q : Option zV → zM → Prop} {T : List Nat} {map : Bool}
def zCt (f : Nat → Nat) (m : zM) : Prop := (∀ s, s < 256 → m 13 s = nI (f s)) ∧ (∀ s, s < 256 → m 18 s = nI (f (256 + s))) ∧ (∀ s, s < 32 → m 23 s = nI (f (512 + s))) ∧ ∀ s, s < 14 → m 28 s = nI (f (768 + s))
/-- the packer's codes: object, base, symbols, number's bits -/
def zPc4 (c B S nb : Nat) : Prop := (c = 11 ∧ B = 0 ∧ S = 256 ∧ nb = 8) ∨ (c = 16 ∧ B = 256 ∧ S = 256 ∧ nb = 8) ∨ (c = 21 ∧ B = 512 ∧ S = 32 ∧ nb = 5) ∨ (c = 26 ∧ B = 768 ∧ S = 14 ∧ nb = 4)
theorem zPc4_is {c B S nb : Nat} (h : zPc4 c B S nb) : is_Code c S ∧ zBase B S nb ∧ 11 ≤ c ∧ c ≤ 26 ∧ 0 < S ∧ S ≤ 256 := by
  rcases h with ⟨rfl, rfl, rfl, rfl⟩ | ⟨rfl, rfl, rfl, rfl⟩ | ⟨rfl, rfl, rfl, rfl⟩ | ⟨rfl, rfl, rfl, rfl⟩
  · exact ⟨is_Code_11, Or.inl ⟨rfl, rfl, rfl⟩, by decide, by decide, by decide, by decide⟩
  · exact ⟨is_Code_16, Or.inr (Or.inl ⟨rfl, rfl, rfl⟩), by decide, by decide, by decide, by decide⟩
  · exact ⟨is_Code_21, Or.inr (Or.inr (Or.inl ⟨rfl, rfl, rfl⟩)), by decide, by decide, by decide, by decide⟩
  · exact ⟨is_Code_26, Or.inr (Or.inr (Or.inr ⟨rfl, rfl, rfl⟩)), by decide, by decide, by decide, by decide⟩
theorem zCt_row {c B S nb : Nat} {f : Nat → Nat} {m : zM} (h : zPc4 c B S nb) (hc : zCt f m) : ∀ s, s < S → m (c + 2) s = nI (f (B + s)) := by
  rcases h with ⟨rfl, rfl, rfl, rfl⟩ | ⟨rfl, rfl, rfl, rfl⟩ | ⟨rfl, rfl, rfl, rfl⟩ | ⟨rfl, rfl, rfl, rfl⟩
  · intro s hs
    rw [Nat.zero_add]
    exact hc.1 s hs
  · exact hc.2.1
  · exact hc.2.2.1
  · exact hc.2.2.2
theorem zCt_inc {c B S nb s : Nat} {f : Nat → Nat} {m : zM} (h : zPc4 c B S nb) (hc : zCt f m) (hs : s < S) : zCt (fun j => f j + (if B + s = j then 1 else 0)) (zms m (c + 2) s (m (c + 2) s + 1)) := by
  have hrow := zCt_row h hc s hs
  obtain ⟨h1, h2, h3, h4⟩ := hc
  rw [hrow, nI_1]
  rcases h with ⟨rfl, rfl, rfl, rfl⟩ | ⟨rfl, rfl, rfl, rfl⟩ | ⟨rfl, rfl, rfl, rfl⟩ | ⟨rfl, rfl, rfl, rfl⟩
  · refine ⟨fun x hx => ?_, fun x hx => ?_, fun x hx => ?_, fun x hx => ?_⟩
    · show zms m 13 s _ 13 x = nI (f x + if 0 + s = x then 1 else 0)
      by_cases e : x = s
      · subst e
        rw [zms_ss, if_pos (by omega), Nat.zero_add]
      · rw [zms_nk e, if_neg (by omega)]
        exact h1 x hx
    · show zms m 13 s _ 18 x = nI (f (256 + x) + if 0 + s = 256 + x then 1 else 0)
      rw [zms_ne (by decide), if_neg (by omega)]
      exact h2 x hx
    · show zms m 13 s _ 23 x = nI (f (512 + x) + if 0 + s = 512 + x then 1 else 0)
      rw [zms_ne (by decide), if_neg (by omega)]
      exact h3 x hx
    · show zms m 13 s _ 28 x = nI (f (768 + x) + if 0 + s = 768 + x then 1 else 0)
      rw [zms_ne (by decide), if_neg (by omega)]
      exact h4 x hx
  · refine ⟨fun x hx => ?_, fun x hx => ?_, fun x hx => ?_, fun x hx => ?_⟩
    · show zms m 18 s _ 13 x = nI (f x + if 256 + s = x then 1 else 0)
      rw [zms_ne (by decide), if_neg (by omega)]
      exact h1 x hx
    · show zms m 18 s _ 18 x = nI (f (256 + x) + if 256 + s = 256 + x then 1 else 0)
      by_cases e : x = s
      · subst e
        rw [zms_ss, if_pos rfl]
      · rw [zms_nk e, if_neg (by omega)]
        exact h2 x hx
    · show zms m 18 s _ 23 x = nI (f (512 + x) + if 256 + s = 512 + x then 1 else 0)
      rw [zms_ne (by decide), if_neg (by omega)]
      exact h3 x hx
    · show zms m 18 s _ 28 x = nI (f (768 + x) + if 256 + s = 768 + x then 1 else 0)
      rw [zms_ne (by decide), if_neg (by omega)]
      exact h4 x hx
  · refine ⟨fun x hx => ?_, fun x hx => ?_, fun x hx => ?_, fun x hx => ?_⟩
    · show zms m 23 s _ 13 x = nI (f x + if 512 + s = x then 1 else 0)
      rw [zms_ne (by decide), if_neg (by omega)]
      exact h1 x hx
    · show zms m 23 s _ 18 x = nI (f (256 + x) + if 512 + s = 256 + x then 1 else 0)
      rw [zms_ne (by decide), if_neg (by omega)]
      exact h2 x hx
    · show zms m 23 s _ 23 x = nI (f (512 + x) + if 512 + s = 512 + x then 1 else 0)
      by_cases e : x = s
      · subst e
        rw [zms_ss, if_pos rfl]
      · rw [zms_nk e, if_neg (by omega)]
        exact h3 x hx
    · show zms m 23 s _ 28 x = nI (f (768 + x) + if 512 + s = 768 + x then 1 else 0)
      rw [zms_ne (by decide), if_neg (by omega)]
      exact h4 x hx
  · refine ⟨fun x hx => ?_, fun x hx => ?_, fun x hx => ?_, fun x hx => ?_⟩
    · show zms m 28 s _ 13 x = nI (f x + if 768 + s = x then 1 else 0)
      rw [zms_ne (by decide), if_neg (by omega)]
      exact h1 x hx
    · show zms m 28 s _ 18 x = nI (f (256 + x) + if 768 + s = 256 + x then 1 else 0)
      rw [zms_ne (by decide), if_neg (by omega)]
      exact h2 x hx
    · show zms m 28 s _ 23 x = nI (f (512 + x) + if 768 + s = 512 + x then 1 else 0)
      rw [zms_ne (by decide), if_neg (by omega)]
      exact h3 x hx
    · show zms m 28 s _ 28 x = nI (f (768 + x) + if 768 + s = 768 + x then 1 else 0)
      by_cases e : x = s
      · subst e
        rw [zms_ss, if_pos rfl]
      · rw [zms_nk e, if_neg (by omega)]
        exact h4 x hx
/-- what counting leaves alone -/
def zFn (m m' : zM) : Prop := ∀ q, q ≠ 13 → q ≠ 18 → q ≠ 23 → q ≠ 28 → m' q = m q
theorem zFn.tr {m m' m'' : zM} (h : zFn m m') (h' : zFn m' m'') : zFn m m'' := fun q a b c e => (h' q a b c e).trans (h q a b c e)
theorem zPc4_row {c B S nb : Nat} (h : zPc4 c B S nb) {m : zM} {k : Nat} {x : Int32} : zFn m (zms m (c + 2) k x) := by
  intro q q1 q2 q3 q4
  refine zms_ne ?_
  rcases h with ⟨rfl, _⟩ | ⟨rfl, _⟩ | ⟨rfl, _⟩ | ⟨rfl, _⟩
  · exact q1
  · exact q2
  · exact q3
  · exact q4
theorem s_forgetTimes {c S : Nat} {m : zM} (hc : is_Code c S) (hS : S ≤ 256) (h0 : m c 0 = nI S) (hQ : ∀ m', (∀ q, q ≠ c + 2 → m' q = m q) → (∀ s, s < S → m' (c + 2) s = 0) → Q none m') : zR κ d Y_Code_forgetTimes 0 [some (.inr c), none] [] m Q := by
  refine w_Code_forgetTimes_0 hc ?_
  have key : ∀ (r s : Nat) (m1 : zM), s + r = S → (∀ q, q ≠ c + 2 → m1 q = m q) → (∀ x, x < s → m1 (c + 2) x = 0) → zR κ d Y_Code_forgetTimes 2 [some (.inr c), some (.inl (nI s))] [] m1 Q := by
    intro r
    induction r with
    | zero =>
      intro s m1 hs hF hz
      have e0 : m1 c 0 = nI S := by rw [hF c (by omega)]; exact h0
      refine w_Code_forgetTimes_2 hc ⟨fun _ => hQ m1 hF (fun x hx => hz x (by omega)), fun g => ?_⟩
      rw [e0] at g
      exact absurd (nI_le (by omega) (by omega)) g
    | succ r ih =>
      intro s m1 hs hF hz
      have e0 : m1 c 0 = nI S := by rw [hF c (by omega)]; exact h0
      refine w_Code_forgetTimes_2 hc ⟨fun g => ?_, fun _ => ⟨vp_in_nI (by omega) (by omega), ?_⟩⟩
      · rw [e0] at g
        exact absurd g (nI_ge (by omega) (by omega))
      rw [nI_clamp (by omega), nI_1]
      refine ih (s + 1) _ (by omega) (fun q hq => by rw [zms_ne hq]; exact hF q hq) (fun x hx => ?_)
      by_cases e : x = s
      · subst e
        exact zms_ss
      · rw [zms_nk e]
        exact hz x (by omega)
  exact key S 0 m (by omega) (fun _ _ => rfl) (fun x hx => absurd hx (Nat.not_lt_zero x))
theorem s_countOnce {c B S nb s : Nat} {m : zM} (h : zPc4 c B S nb) (h0 : m c 0 = nI S) (hs : s < S) (hQ : Q none (zms m (c + 2) s (m (c + 2) s + 1))) : zR κ d Y_Code_countOnce 0 [some (.inr c), some (.inl (nI s))] [] m Q := by
  obtain ⟨hc, hb, h11, h26, hS0, hS⟩ := zPc4_is h
  refine w_Code_countOnce_0 hc ⟨fun g => absurd g (nI_pos (by omega)), fun _ => ⟨fun g => ?_, fun _ => ?_⟩⟩
  · rw [h0] at g
    exact absurd g (nI_ge hs (by omega))
  · rw [nI_clamp (by omega)]
    exact ⟨vp_in_nI hs (by omega), vp_in_nI hs (by omega), hQ⟩
theorem s_countNone {c S : Nat} {m : zM} (hc : is_Code c S) (hQ : Q none m) : zR κ d Y_Code_countOnce 0 [some (.inr c), some (.inl (-1))] [] m Q :=
  w_Code_countOnce_0 hc ⟨fun _ => hQ, fun g => absurd (by decide) g⟩
theorem s_insSym {m : zM} {k n : Nat} (hk : k < 48) (h36 : m 36 k = nI n) (hn : n < 100) (hQ : Q (some (.inl (nI (zis n)))) m) : zR κ d Y_Plan_insertSymbolOf 0 [some (.inr 31), some (.inl (nI k)), none] [] m Q := by
  refine w_Plan_insertSymbolOf_0 ?_
  have key : ∀ (r i : Nat), i + r = 3 → zisu n r i = zis n → zR κ d Y_Plan_insertSymbolOf 2 [some (.inr 31), some (.inl (nI k)), some (.inl (nI i))] [] m Q := by
    intro r
    induction r with
    | zero =>
      intro i hi hz
      have hz : i = zis n := hz
      rw [← hz] at hQ
      refine w_Plan_insertSymbolOf_2 ⟨fun _ => hQ, fun g => ?_⟩
      rw [nI_1] at g
      exact absurd (show nI 4 ≤ nI (i + 1) from nI_le (by omega) (by omega)) g
    | succ r ih =>
      intro i hi hz
      rw [zisu] at hz
      obtain ⟨t1, t2, t3, t4⟩ := tv0_nI ⟨i + 1, by omega⟩
      have t1 : tv_0.getD (i + 1) 0 = nI (zIB.getD (i + 1) 0) := t1
      have t4 : zIB.getD (i + 1) 0 ≤ 6 := t4
      refine w_Plan_insertSymbolOf_2 ⟨fun g => ?_, fun _ => ?_⟩
      · rw [nI_1] at g
        exact absurd g (show ¬ nI 4 ≤ nI (i + 1) from nI_ge (by omega) (by decide))
      rw [nI_1, nI_clamp (by omega), nI_clamp (by omega), h36, t1]
      refine ⟨vp_in_nI (by omega) (by decide), vp_in_nI hk (by decide), fun g => ?_, fun g => ?_⟩
      · have g := (nI_ltI (by omega) (by omega)).mp g
        rw [if_neg (by omega)] at hz
        rw [← hz] at hQ
        exact hQ
      · have g : ¬ n < zIB.getD (i + 1) 0 := fun w => g (nI_lt w (by omega))
        rw [if_pos (by omega)] at hz
        exact ih (i + 1) (by omega) hz
  exact key 3 0 rfl rfl
theorem s_cmdSym {m : zM} {k n kd : Nat} (hk : k < 48) (h36 : m 36 k = nI n) (hn : n < 100) (h37 : m 37 k = nI kd) (hQ : Q (some (.inl (nI (8 * zis n + kd)))) m) : zR κ (d + 1) Y_Plan_commandSymbolOf 0 [some (.inr 31), some (.inl (nI k))] [] m Q := by
  refine w_Plan_commandSymbolOf_0 (s_insSym hk h36 hn ⟨_, rfl, vp_in_nI hk (by decide), ?_⟩)
  rw [nI_clamp (by omega), h37]
  have e : (8 : Int32) * nI (zis n) = nI (8 * zis n) := (Int32.ofNat_mul 8 _).symm
  rw [e, nI_add]
  exact hQ
theorem r_get1 {m : zM} {q : Nat} (hT : zTx T m) (hq : q < T.length) (hQ : Q (some (.inl (nI (T.getD q 0)))) m) : zR κ d Y_Text_get 0 [some (.inr 1), some (.inl (nI q))] [] m Q := by
  have h96 := hT.1
  refine w_Text_get_0 is_Text_1 ⟨fun g => absurd g (nI_pos (by omega)), fun _ => ⟨fun g => ?_, fun _ => ⟨vp_in_nI (by omega) (by decide), ?_⟩⟩⟩
  · rw [hT.2.1] at g
    exact absurd g (nI_ge hq (by omega))
  · rw [nI_clamp (by omega), hT.2.2.1 q hq]
    exact hQ
theorem r_litAt1 {m : zM} {q : Nat} (hT : zTx T m) (hq : q ≤ T.length) (hQ : Q (some (.inr (if zsml2 T map q = true then 16 else 11))) m) : zR κ (d + 2) Y_Codes_literalAt 0 [some (.inr 10), some (.inr 1), some (.inl (nI q)), some (.inl (nI map.toNat))] [] m Q := by
  have h96 := hT.1
  refine w_Codes_literalAt_0 is_Codes_10 is_Text_1 ⟨fun z => ?_, fun z => ?_⟩
  · have hm : map = false := by
      cases map
      · rfl
      · exact absurd z (by decide)
    have hs : zsml2 T map q = false := by
      unfold zsml2
      rw [hm, Bool.false_and]
    rw [hs] at hQ
    exact hQ
  · have hm : map = true := by
      cases map
      · exact absurd rfl z
      · rfl
    have hs : zsml2 T map q = decide (0 < q ∧ 97 ≤ T.getD (q - 1) 0 ∧ T.getD (q - 1) 0 ≤ 122) := by
      unfold zsml2
      rw [hm, Bool.true_and]
    rw [hs] at hQ
    refine w_Text_followsSmallLetter_0 is_Text_1 ?_
    cases hql : q with
    | zero =>
      subst hql
      rw [decide_eq_false (by omega)] at hQ
      exact w_Text_get_0 is_Text_1 ⟨fun _ => ⟨_, rfl, fun _ => ⟨_, rfl, fun _ => hQ, fun w => absurd rfl w⟩, fun w => absurd (by decide) w⟩, fun w => absurd (by decide) w⟩
    | succ j =>
      subst hql
      rw [nI_pred]
      have hx := zT_b (T := T) (i := j) hT.2.2.2
      rw [Nat.add_sub_cancel] at hQ
      refine r_get1 hT (by omega) ⟨_, rfl, fun w => ⟨_, rfl, fun _ => ?_, fun w => absurd rfl w⟩, fun w => ⟨fun v => ⟨_, rfl, fun _ => ?_, fun w => absurd rfl w⟩, fun v => ⟨_, rfl, fun w => absurd w (by decide), fun _ => ?_⟩⟩⟩
      · have w := (nI_ltI (by omega) (by decide)).mp (show nI (T.getD j 0) < nI 97 from w)
        rw [decide_eq_false (by omega)] at hQ
        exact hQ
      · have v := (nI_ltI (by decide) (by omega)).mp (show nI 122 < nI (T.getD j 0) from v)
        rw [decide_eq_false (by omega)] at hQ
        exact hQ
      · have w : ¬ T.getD j 0 < 97 := fun g => w (nI_lt g (by decide))
        have v : ¬ 122 < T.getD j 0 := fun g => v (nI_lt g (by omega))
        rw [decide_eq_true (by omega)] at hQ
        exact hQ
/-- the packer's four codes stand -/
def zC4p (m : zM) : Prop := zCode 11 256 8 m ∧ zCode 16 256 8 m ∧ zCode 21 32 5 m ∧ zCode 26 14 4 m
theorem zC4p_n {m m' : zM} (h : zFn m m') (hk : zC4p m) : zC4p m' := ⟨zCode_of (h _ (by decide) (by decide) (by decide) (by decide)) (h _ (by decide) (by decide) (by decide) (by decide)) (h _ (by decide) (by decide) (by decide) (by decide)) hk.1, zCode_of (h _ (by decide) (by decide) (by decide) (by decide)) (h _ (by decide) (by decide) (by decide) (by decide)) (h _ (by decide) (by decide) (by decide) (by decide)) hk.2.1, zCode_of (h _ (by decide) (by decide) (by decide) (by decide)) (h _ (by decide) (by decide) (by decide) (by decide)) (h _ (by decide) (by decide) (by decide) (by decide)) hk.2.2.1, zCode_of (h _ (by decide) (by decide) (by decide) (by decide)) (h _ (by decide) (by decide) (by decide) (by decide)) (h _ (by decide) (by decide) (by decide) (by decide)) hk.2.2.2⟩
theorem zch2_at {e : Nat} : ∀ (cs : List zCmd) (q k : Nat), zch2 q cs e → k < cs.length → (cs.getD k zcn0).1 + (cs.getD k zcn0).2.1 ≤ e := by
  intro cs
  induction cs with
  | nil => intro q k _ hk; exact absurd hk (Nat.not_lt_zero k)
  | cons a cs ih =>
    intro q k h hk
    cases k with
    | zero =>
      have := zch2_n cs _ h.2
      show a.1 + a.2.1 ≤ e
      have e1 := h.1
      omega
    | succ k => exact ih _ k h.2 (Nat.lt_of_succ_lt_succ hk)
theorem zdrop_consC {cs : List zCmd} {k : Nat} (hk : k < cs.length) : cs.drop k = cs.getD k zcn0 :: cs.drop (k + 1) := by
  rw [List.drop_eq_getElem_cons hk, zgd_get cs zcn0 hk]
set_option maxHeartbeats 1000000 in
theorem s_countSymbols {m : zM} {p e : Nat} {cs : List zCmd} (hT : zTx T m) (hP : zPl cs m) (hok : zCok p e cs) (he : e ≤ T.length) (hC : zC4p m)
    (hQ : ∀ m', zCt (zctm T map cs) m' → zFn m m' → Q none m') : zR κ (d + 3) Y_Packer_countSymbols 0 [some (.inr 6), some (.inr 1), some (.inl (nI map.toNat)), none, none, none] [] m Q := by
  have h17 := hok.2.2
  refine w_Packer_countSymbols_0 is_Text_1 (w_Codes_forgetTimes_0 is_Codes_10 (s_forgetTimes is_Code_11 (by decide) hC.1.1 (fun m1 a1 a2 => ⟨rfl, s_forgetTimes is_Code_16 (by decide) (by rw [a1 16 (by decide)]; exact hC.2.1.1) (fun m2 b1 b2 => ⟨rfl, s_forgetTimes is_Code_21 (by decide) (by rw [b1 21 (by decide), a1 21 (by decide)]; exact hC.2.2.1.1) (fun m3 c1 c2 => ⟨rfl, s_forgetTimes is_Code_26 (by decide) (by rw [c1 26 (by decide), b1 26 (by decide), a1 26 (by decide)]; exact hC.2.2.2.1) (fun m4 d1 d2 => ⟨rfl, rfl, ?_⟩)⟩)⟩)⟩)))
  have hF4 : zFn m m4 := fun q q1 q2 q3 q4 => by rw [d1 q q4, c1 q q3, b1 q q2, a1 q q1]
  have hz4 : zCt (fun _ => 0) m4 := ⟨fun s hs => by rw [d1 13 (by decide), c1 13 (by decide), b1 13 (by decide)]; exact a2 s hs, fun s hs => by rw [d1 18 (by decide), c1 18 (by decide)]; exact b2 s hs, fun s hs => by rw [d1 23 (by decide)]; exact c2 s hs, fun s hs => d2 s hs⟩
  clear a1 a2 b1 b2 c1 c2 d1 d2 m1 m2 m3
  have key : ∀ (r k : Nat) (m5 : zM) (f : Nat → Nat), k + r = cs.length → zCt f m5 → (∀ i, f i + zctm T map (cs.drop k) i = zctm T map cs i) → zFn m m5 → zR κ (d + 2 + 1) Y_Packer_countSymbols 9 [some (.inr 6), some (.inr 1), some (.inl (nI map.toNat)), some (.inl (nI k)), none, none] [] m5 Q := by
    intro r
    induction r with
    | zero =>
      intro k m5 f hk hz hf hF
      rw [List.drop_eq_nil_of_le (by omega)] at hf
      have ef : f = zctm T map cs := funext (fun i => hf i)
      rw [ef] at hz
      have e8 : m5 31 8 = nI cs.length := by rw [hF 31 (by decide) (by decide) (by decide) (by decide)]; exact hP.1
      refine w_Packer_countSymbols_9 is_Text_1 ⟨fun _ => hQ m5 hz hF, fun g => ?_⟩
      rw [e8] at g
      exact absurd (nI_le (by omega) (by omega)) g
    | succ r ih =>
      intro k m5 f hk hz hf hF
      have hkl : k < cs.length := by omega
      have e8 : m5 31 8 = nI cs.length := by rw [hF 31 (by decide) (by decide) (by decide) (by decide)]; exact hP.1
      have hcm := hP.2.1 k hkl
      have hcok : zcok (cs.getD k zcn0) := hok.2.1 _ (by rw [zgd_get cs zcn0 hkl]; exact List.getElem_mem _)
      have hend := zch2_at cs p k hok.1 hkl
      rw [zdrop_consC hkl] at hf
      generalize hc : cs.getD k zcn0 = c at *
      have hf : ∀ i, f i + (zcc1 T map c i + zctm T map (cs.drop (k + 1)) i) = zctm T map cs i := hf
      obtain ⟨o1, o2, o3, o4, o5, o6, o7, o8, o9, o10⟩ := hcok
      obtain ⟨g35, g36, g37, g38, g39, g40⟩ := hcm
      obtain ⟨i1, i2, i3⟩ := zis_eq ⟨c.2.1, by omega⟩
      have i2 : zis c.2.1 < 4 := i2
      have hcell : ∀ m6 : zM, zFn m m6 → m6 36 k = nI c.2.1 ∧ m6 35 k = nI c.1 ∧ m6 39 k = zsI c.2.2.2.2.1 ∧ m6 37 k = nI c.2.2.1 := fun m6 h6 => ⟨by rw [h6 36 (by decide) (by decide) (by decide) (by decide)]; exact g36, by rw [h6 35 (by decide) (by decide) (by decide) (by decide)]; exact g35, by rw [h6 39 (by decide) (by decide) (by decide) (by decide)]; exact g39, by rw [h6 37 (by decide) (by decide) (by decide) (by decide)]; exact g37⟩
      -- the literals
      have k60 : ∀ (rr j : Nat) (m6 : zM) (f6 : Nat → Nat), j + rr = c.2.1 → zCt f6 m6 → (∀ i, f6 i + (zltc T map i rr (c.1 + j) + zctm T map (cs.drop (k + 1)) i) = zctm T map cs i) → zFn m m6 → zR κ (d + 2 + 1) Y_Packer_countSymbols 60 [some (.inr 6), some (.inr 1), some (.inl (nI map.toNat)), some (.inl (nI k)), some (.inl (nI j)), none] [] m6 Q := by
        intro rr
        induction rr with
        | zero =>
          intro j m6 f6 hj hz6 hf6 hF6
          obtain ⟨e36, -, -, -⟩ := hcell m6 hF6
          refine w_Packer_countSymbols_60 is_Text_1 ?_
          rw [nI_clamp (by omega), e36]
          refine ⟨vp_in_nI (by omega) (by decide), fun _ => ?_, fun g => absurd (nI_le (by omega) (by omega)) g⟩
          rw [nI_1]
          refine ih (k + 1) m6 f6 (by omega) hz6 (fun i => ?_) hF6
          have := hf6 i
          rw [zltc, Nat.zero_add] at this
          exact this
        | succ rr ih2 =>
          intro j m6 f6 hj hz6 hf6 hF6
          obtain ⟨e36, e35, -, -⟩ := hcell m6 hF6
          have hT6 : zTx T m6 := zTx_of (hF6 1 (by decide) (by decide) (by decide) (by decide)) (hF6 2 (by decide) (by decide) (by decide) (by decide)) hT
          have hin : vp_in (nI k) 48 := vp_in_nI (by omega) (by decide)
          have h96 := hT.1
          have hb := zT_b (T := T) (i := c.1 + j) hT.2.2.2
          refine w_Packer_countSymbols_60 is_Text_1 ?_
          rw [nI_clamp (by omega), e36, e35, nI_add]
          refine ⟨hin, fun g => absurd g (nI_ge (by omega) (by omega)), fun _ => ⟨hin, r_litAt1 hT6 (by omega) ⟨_, rfl, r_get1 hT6 (by omega) ⟨_, rfl, ?_⟩⟩⟩⟩
          rw [nI_1]
          have hnext : ∀ (cc B : Nat), zPc4 cc B 256 8 → B + T.getD (c.1 + j) 0 = zli T map (c.1 + j) → m6 cc 0 = nI 256 → zR κ (d + 2) Y_Code_countOnce 0 [some (.inr cc), some (.inl (nI (T.getD (c.1 + j) 0)))] [] m6 (fun r m5 => r = none ∧ zR κ (d + 2 + 1) Y_Packer_countSymbols 60 [some (.inr 6), some (.inr 1), some (.inl (nI map.toNat)), some (.inl (nI k)), some (.inl (nI (j + 1))), none] [] m5 Q) := by
            intro cc B hpc hB h0
            refine s_countOnce hpc h0 hb ⟨rfl, ih2 (j + 1) _ _ (by omega) (zCt_inc hpc hz6 hb) (fun i => ?_) (hF6.tr (zPc4_row hpc))⟩
            have := hf6 i
            rw [zltc] at this
            rw [hB]
            show f6 i + (if zli T map (c.1 + j) = i then 1 else 0) + (zltc T map i rr (c.1 + (j + 1)) + zctm T map (cs.drop (k + 1)) i) = _
            rw [show c.1 + (j + 1) = c.1 + j + 1 by omega]
            omega
          have hC6 := zC4p_n hF6 hC
          cases hsm : zsml2 T map (c.1 + j) with
          | true =>
            refine ⟨⟨_, is_Code_16.1⟩, hnext 16 256 (Or.inr (Or.inl ⟨rfl, rfl, rfl, rfl⟩)) ?_ hC6.2.1.1⟩
            unfold zli
            rw [hsm] <;> rfl
          | false =>
            refine ⟨⟨_, is_Code_11.1⟩, hnext 11 0 (Or.inl ⟨rfl, rfl, rfl, rfl⟩) ?_ hC6.1.1⟩
            unfold zli
            rw [hsm] <;> rfl
      obtain ⟨e36, e35, e39, e37⟩ := hcell m5 hF
      refine w_Packer_countSymbols_9 is_Text_1 ⟨fun g => ?_, fun _ => ?_⟩
      · rw [e8] at g
        exact absurd g (nI_ge hkl (by omega))
      have hpC : zPc4 21 512 32 5 := Or.inr (Or.inr (Or.inl ⟨rfl, rfl, rfl, rfl⟩))
      have hpD : zPc4 26 768 14 4 := Or.inr (Or.inr (Or.inr ⟨rfl, rfl, rfl, rfl⟩))
      have hC5 := zC4p_n hF hC
      have hin : vp_in (nI k) 48 := vp_in_nI (by omega) (by decide)
      refine s_cmdSym (by omega) e36 (by omega) e37 ⟨_, rfl, s_countOnce hpC hC5.2.2.1.1 (by omega) ⟨rfl, hin, ?_⟩⟩
      have hz7 := zCt_inc hpC hz (show 8 * zis c.2.1 + c.2.2.1 < 32 by omega)
      have hF7 : zFn m (zms m5 (21 + 2) (8 * zis c.2.1 + c.2.2.1) (m5 (21 + 2) (8 * zis c.2.1 + c.2.2.1) + 1)) := hF.tr (zPc4_row hpC)
      generalize zms m5 (21 + 2) (8 * zis c.2.1 + c.2.2.1) (m5 (21 + 2) (8 * zis c.2.1 + c.2.2.1) + 1) = m7 at hz7 hF7 ⊢
      obtain ⟨-, -, e39', -⟩ := hcell m7 hF7
      rw [nI_clamp (by omega), e39']
      have hC7 := zC4p_n hF7 hC
      by_cases hs : c.2.2.2.2.1 = 0
      · have : zsI c.2.2.2.2.1 = -1 := by unfold zsI; rw [if_pos hs]
        rw [this]
        refine s_countNone is_Code_26 ⟨rfl, k60 c.2.1 0 m7 _ (by omega) hz7 (fun i => ?_) hF7⟩
        have := hf i
        unfold zcc1 at this
        rw [if_neg (show ¬ (c.2.2.2.2.1 ≠ 0 ∧ 768 + (c.2.2.2.2.1 - 1) = i) from fun w => w.1 hs)] at this
        rw [Nat.add_zero c.1]
        omega
      · have : zsI c.2.2.2.2.1 = nI (c.2.2.2.2.1 - 1) := by unfold zsI; rw [if_neg hs]
        rw [this]
        refine s_countOnce hpD hC7.2.2.2.1 (by omega) ⟨rfl, k60 c.2.1 0 _ _ (by omega) (zCt_inc hpD hz7 (show c.2.2.2.2.1 - 1 < 14 by omega)) (fun i => ?_) (hF7.tr (zPc4_row hpD))⟩
        have := hf i
        unfold zcc1 at this
        show f i + (if 512 + (8 * zis c.2.1 + c.2.2.1) = i then 1 else 0) + (if 768 + (c.2.2.2.2.1 - 1) = i then 1 else 0) + _ = _
        rw [Nat.add_zero c.1]
        by_cases h7 : 768 + (c.2.2.2.2.1 - 1) = i
        · rw [if_pos (show c.2.2.2.2.1 ≠ 0 ∧ 768 + (c.2.2.2.2.1 - 1) = i from ⟨hs, h7⟩)] at this
          rw [if_pos h7]
          omega
        · rw [if_neg (show ¬ (c.2.2.2.2.1 ≠ 0 ∧ 768 + (c.2.2.2.2.1 - 1) = i) from fun w => h7 w.2)] at this
          rw [if_neg h7]
          omega
  exact key cs.length 0 m4 (fun _ => 0) (by omega) hz4 (fun i => by rw [List.drop_zero]; exact Nat.zero_add _) hF4
end zCount
