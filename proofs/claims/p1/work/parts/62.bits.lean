/-! bits out: the class's give, the reference's number -/
section zBits
theorem zs_l : ∀ n, n < 32 → ((nI n &&& 31).toBitVec.smod 32).toNat = n := by decide +kernel
/-- a byte with its bit j set or cleared -/
def zset (b j : Nat) : Nat := b ||| 2 ^ j
def zclr (b j : Nat) : Nat := b &&& (255 - 2 ^ j)
theorem zset_ok : ∀ b, b < 256 → ∀ j, j < 8 → (nI b ||| ((1 : Int32) <<< (nI j &&& 31)) = nI (zset b j) ∧ zset b j < 256) := by decide +kernel
theorem zclr_ok : ∀ b, b < 256 → ∀ j, j < 8 → (nI b &&& (((1 : Int32) <<< (nI j &&& 31)) ^^^ (-1)) = nI (zclr b j) ∧ zclr b j < 256) := by decide +kernel
theorem zset_bit : ∀ j, j < 8 → ∀ b, (zset b j).testBit j = true ∧ ∀ k, k ≠ j → (zset b j).testBit k = b.testBit k := by
  intro j hj b
  refine ⟨by simp [zset, Nat.testBit_or, Nat.testBit_two_pow], fun k hk => ?_⟩
  have : ¬ j = k := fun z => hk z.symm
  simp [zset, Nat.testBit_or, Nat.testBit_two_pow, this]
theorem zclr_m : ∀ j, j < 8 → ∀ k, k < 8 → (255 - 2 ^ j).testBit k = !(decide (k = j)) := by decide +kernel
theorem zclr_bit : ∀ j, j < 8 → ∀ b, (zclr b j).testBit j = false ∧ ∀ k, k < 8 → k ≠ j → (zclr b j).testBit k = b.testBit k := by
  intro j hj b
  refine ⟨by simp [zclr, Nat.testBit_and, zclr_m j hj j hj], fun k hk hne => ?_⟩
  simp [zclr, Nat.testBit_and, zclr_m j hj k hk, hne]
/-- bit k of an int, as both sides take it -/
def zib (x : Int32) (k : Nat) : Bool := decide ((x >>> (nI k &&& 31)) &&& 1 = 1)
def zbits (x : Int32) (k r : Nat) : List Bool := (List.range' k r).map (fun i => zib x i)
theorem zbits_succ (x : Int32) (k r : Nat) : zbits x k (r + 1) = zib x k :: zbits x (k + 1) r := by simp [zbits, List.range'_succ]
theorem zbits_length (x : Int32) (k r : Nat) : (zbits x k r).length = r := by simp [zbits]
theorem zib_val (x : Int32) (k : Nat) : (x >>> (nI k &&& 31)) &&& 1 = nI (zib x k).toNat := by
  obtain ⟨j, hj, e⟩ := pk_andE (x >>> (nI k &&& 31)) (m := 1) 1 (by decide)
  unfold zib
  rw [e]
  rcases (show j = 0 ∨ j = 1 by omega) with rfl | rfl <;> decide
/-- bit number j of the class's stream -/
def zbit (mem : zM) (j : Nat) : Bool := (mem 4 (j / 8)).toNatClampNeg.testBit (j % 8)
/-- the class has written the bits bs -/
def zWB (mem : zM) (bs : List Bool) : Prop := mem 3 2 = nI bs.length ∧ bs.length ≤ 8000 ∧ (∀ k, k < 200 → zB (mem 4 k)) ∧ ∀ j, j < bs.length → j < 1600 → zbit mem j = bs.getD j false
def zF34 (m m' : zM) : Prop := (∀ q, q ≠ 3 → q ≠ 4 → m' q = m q) ∧ ∀ k, k ≠ 2 → m' 3 k = m 3 k
theorem zF34.rf {m : zM} : zF34 m m := ⟨fun _ _ _ => rfl, fun _ _ => rfl⟩
theorem zF34.tr {m m' m'' : zM} (h : zF34 m m') (h' : zF34 m' m'') : zF34 m m'' := ⟨fun q a b => (h'.1 q a b).trans (h.1 q a b), fun k a => (h'.2 k a).trans (h.2 k a)⟩
theorem zWB_skip {mem : zM} {bs : List Bool} {v : Bool} (h : zWB mem bs) (hl : bs.length + 1 ≤ 8000) (hP : 1600 ≤ bs.length) : zWB (zms mem 3 2 (mem 3 2 + 1)) (bs ++ [v]) ∧ zF34 mem (zms mem 3 2 (mem 3 2 + 1)) := by
  obtain ⟨h1, h2, h3, h4⟩ := h
  refine ⟨⟨by rw [zms_ss, h1, nI_1, List.length_append]; rfl, by rw [List.length_append]; exact hl, fun k hk => by rw [zms_ne (by decide)]; exact h3 k hk, fun j hj hj2 => ?_⟩, fun q a b => zms_ne a, fun k a => zms_nk a⟩
  have hjb : j < bs.length := by omega
  have e : zbit (zms mem 3 2 (mem 3 2 + 1)) j = zbit mem j := by unfold zbit; rw [zms_ne (by decide)]
  rw [e, h4 j hjb hj2, zgd_left _ _ _ hjb]
theorem zWB_put {mem : zM} {bs : List Bool} {v : Bool} {b b' : Nat} (h : zWB mem bs) (hP : bs.length < 1600) (hb : mem 4 (bs.length / 8) = nI b) (hb2 : b < 256) (hb' : b' < 256) (hv : b'.testBit (bs.length % 8) = v) (ho : ∀ k, k < 8 → k ≠ bs.length % 8 → b'.testBit k = b.testBit k) : zWB (zms (zms mem 4 (bs.length / 8) (nI b')) 3 2 (mem 3 2 + 1)) (bs ++ [v]) ∧ zF34 mem (zms (zms mem 4 (bs.length / 8) (nI b')) 3 2 (mem 3 2 + 1)) := by
  obtain ⟨h1, h2, h3, h4⟩ := h
  have hrow : ∀ i, (zms (zms mem 4 (bs.length / 8) (nI b')) 3 2 (mem 3 2 + 1)) 4 i = if i = bs.length / 8 then nI b' else mem 4 i := by
    intro i
    rw [zms_ne (by decide)]
    by_cases hi : i = bs.length / 8
    · rw [if_pos hi, hi, zms_ss]
    · rw [if_neg hi, zms_nk hi]
  refine ⟨⟨by rw [zms_ss, h1, nI_1, List.length_append]; rfl, by rw [List.length_append, List.length_singleton]; omega, fun k hk => ?_, fun j hj hj2 => ?_⟩, fun q a b => by rw [zms_ne a, zms_ne b], fun k a => by rw [zms_nk a, zms_ne (by decide)]⟩
  · rw [hrow]
    split
    · exact ⟨b', hb', rfl⟩
    · exact h3 k hk
  · rw [List.length_append, List.length_singleton] at hj
    unfold zbit
    rw [hrow]
    by_cases hjP : j = bs.length
    · subst hjP
      rw [if_pos rfl, nI_clamp (by omega), hv]
      simp
    · have hjb : j < bs.length := by omega
      have e4 := h4 j hjb hj2
      unfold zbit at e4
      rw [zgd_left _ _ _ hjb, ← e4]
      by_cases hq : j / 8 = bs.length / 8
      · rw [if_pos hq, hq, hb, nI_clamp (by omega), nI_clamp (by omega)]
        exact ho (j % 8) (by omega) (by omega)
      · rw [if_neg hq]
section
variable {κ : zK} {d : Nat} {Q : Option zV → zM → Prop}
theorem s_give_loop {x : Int32} {n : Nat} (hn : n ≤ 31) : ∀ (r k : Nat) (mem : zM) (bs : List Bool), k + r = n → bs.length + r ≤ 8000 → zWB mem bs → (∀ m', zWB m' (bs ++ zbits x k r) → zF34 mem m' → Q none m') → zR κ d Y_BitStream_give 2 [some (.inr 3), some (.inl x), some (.inl (nI n)), some (.inl (nI k)), none, none] [] mem Q := by
  intro r
  induction r with
  | zero =>
    intro k mem bs hk hl h hQ
    refine w_BitStream_give_2 ⟨fun _ => hQ mem (by simpa [zbits] using h) zF34.rf, fun q => absurd (nI_le (by omega) (by omega)) q⟩
  | succ r ih =>
    intro k mem bs hk hl h hQ
    have h' := h
    obtain ⟨h1, h2, h3, h4⟩ := h
    have hsh : (mem 3 2) >>> (3 : Int32) = nI (bs.length / 8) := by rw [h1]; exact pk_shrN (by omega) 3 3 (by decide)
    have hand : (mem 3 2) &&& 7 = nI (bs.length % 8) := by rw [h1]; exact pk_andN (by omega) 3 (by decide)
    have hnext : nI k + 1 = nI (k + 1) := nI_1 k
    have hcont : ∀ m1, zWB m1 (bs ++ [zib x k]) ∧ zF34 mem m1 → zR κ d Y_BitStream_give 2 [some (.inr 3), some (.inl x), some (.inl (nI n)), some (.inl (nI k + 1)), none, none] [] m1 Q := by
      intro m1 hm
      rw [hnext]
      refine ih (k + 1) m1 (bs ++ [zib x k]) (by omega) (by rw [List.length_append, List.length_singleton]; omega) hm.1 (fun m' g1 g2 => hQ m' ?_ (hm.2.tr g2))
      rw [zbits_succ]
      simpa using g1
    refine w_BitStream_give_2 ⟨fun q => absurd q (nI_ge (by omega) (by omega)), fun _ => ?_⟩
    rw [hsh]
    refine ⟨fun q => ?_, fun q => ?_⟩
    · have hP : 1600 ≤ bs.length := by
        have := (nI_leI (a := 200) (b := bs.length / 8) (by decide) (by omega)).mp q
        omega
      exact hcont _ (zWB_skip h' (by omega) hP)
    · have hP : bs.length / 8 < 200 := by
        rcases Nat.lt_or_ge (bs.length / 8) 200 with z | z
        · exact z
        · exact absurd (nI_le (a := 200) z (by omega)) q
      obtain ⟨b, hb, eb⟩ := h3 _ hP
      have hin : vp_in (nI (bs.length / 8)) 200 := vp_in_nI hP (by decide)
      rw [hand, nI_clamp (by omega), eb]
      refine ⟨fun z => ⟨hin, hin, ?_⟩, fun z => ⟨hin, hin, ?_⟩⟩
      · have hv : zib x k = false := decide_eq_false z
        rw [(zclr_ok b hb _ (Nat.mod_lt _ (by decide))).1]
        exact hcont _ (zWB_put h' (by omega) eb hb (zclr_ok b hb _ (Nat.mod_lt _ (by decide))).2 (by rw [hv]; exact (zclr_bit _ (Nat.mod_lt _ (by decide)) b).1) (fun k h1 h2 => (zclr_bit _ (Nat.mod_lt _ (by decide)) b).2 k h1 h2))
      · have hv : zib x k = true := decide_eq_true z
        rw [(zset_ok b hb _ (Nat.mod_lt _ (by decide))).1]
        exact hcont _ (zWB_put h' (by omega) eb hb (zset_ok b hb _ (Nat.mod_lt _ (by decide))).2 (by rw [hv]; exact (zset_bit _ (Nat.mod_lt _ (by decide)) b).1) (fun k h1 h2 => (zset_bit _ (Nat.mod_lt _ (by decide)) b).2 k h2))
theorem s_give {x : Int32} {n : Nat} {mem : zM} {bs : List Bool} (hn : n ≤ 31) (hl : bs.length + n ≤ 8000) (h : zWB mem bs) (hQ : ∀ m', zWB m' (bs ++ zbits x 0 n) → zF34 mem m' → Q none m') : zR κ d Y_BitStream_give 0 [some (.inr 3), some (.inl x), some (.inl (nI n)), none, none, none] [] mem Q :=
  w_BitStream_give_0 (s_give_loop hn n 0 mem bs (by omega) hl h hQ)
end
/-- the reference has written the bits bs -/
def zWM (mem : zM) (bs : List Bool) : Prop := mem 68 8 = nI bs.length ∧ ∀ j, j < bs.length → mem 71 j = nI (bs.getD j false).toNat
def zF68 (m m' : zM) : Prop := (∀ q, q ≠ 68 → q ≠ 71 → m' q = m q) ∧ ∀ k, k ≠ 8 → m' 68 k = m 68 k
theorem zF68.rf {m : zM} : zF68 m m := ⟨fun _ _ _ => rfl, fun _ _ => rfl⟩
theorem zF68.tr {m m' m'' : zM} (h : zF68 m m') (h' : zF68 m' m'') : zF68 m m'' := ⟨fun q a b => (h'.1 q a b).trans (h.1 q a b), fun k a => (h'.2 k a).trans (h.2 k a)⟩
section
variable {κ : zK} {d : Nat} {Q : Option zV → zM → Prop}
theorem s_number_loop {x : Int32} {n : Nat} (hn : n ≤ 31) : ∀ (r k : Nat) (mem : zM) (bs : List Bool), k + r = n → bs.length + r ≤ 4000 → zWM mem bs → (∀ m', zWM m' (bs ++ zbits x k r) → zF68 mem m' → Q none m') → zR κ d Y_Mo_number 2 [some (.inr 68), some (.inl x), some (.inl (nI n)), some (.inl (nI k))] [] mem Q := by
  intro r
  induction r with
  | zero =>
    intro k mem bs hk hl h hQ
    refine w_Mo_number_2 ⟨fun _ => hQ mem (by simpa [zbits] using h) zF68.rf, fun q => absurd (nI_le (by omega) (by omega)) q⟩
  | succ r ih =>
    intro k mem bs hk hl h hQ
    obtain ⟨h1, h4⟩ := h
    refine w_Mo_number_2 ⟨fun q => absurd q (nI_ge (by omega) (by omega)), fun _ => ?_⟩
    rw [h1, zib_val, nI_clamp (by omega), nI_1, nI_1]
    refine ⟨vp_in_nI (by omega) (by decide), ih (k + 1) _ (bs ++ [zib x k]) (by omega) (by rw [List.length_append, List.length_singleton]; omega) ⟨by rw [zms_ss, List.length_append, List.length_singleton], fun j hj => ?_⟩ (fun m' g1 g2 => hQ m' ?_ ?_)⟩
    · rw [List.length_append, List.length_singleton] at hj
      rw [zms_ne (by decide)]
      by_cases hjb : j = bs.length
      · subst hjb
        rw [zms_ss]
        simp
      · rw [zms_nk hjb, h4 j (by omega), zgd_left _ _ _ (by omega)]
    · rw [zbits_succ]
      simpa using g1
    · refine zF68.tr ⟨fun q a b => ?_, fun k a => ?_⟩ g2
      · rw [zms_ne a, zms_ne b]
      · rw [zms_nk a, zms_ne (by decide)]
theorem s_number {x : Int32} {n : Nat} {mem : zM} {bs : List Bool} (hn : n ≤ 31) (hl : bs.length + n ≤ 4000) (h : zWM mem bs) (hQ : ∀ m', zWM m' (bs ++ zbits x 0 n) → zF68 mem m' → Q none m') : zR κ d Y_Mo_number 0 [some (.inr 68), some (.inl x), some (.inl (nI n)), none] [] mem Q :=
  w_Mo_number_0 (s_number_loop hn n 0 mem bs (by omega) hl h hQ)
end
end zBits
