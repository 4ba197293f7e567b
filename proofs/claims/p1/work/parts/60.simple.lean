/-! the state of the two objects, and the short calls -/
section zSimple
theorem zms_ss {mem : zM} {p k : Nat} {v : Int32} : zms mem p k v p k = v := by simp [zms, zmr, upd]
theorem zms_ne {mem : zM} {p k q : Nat} {v : Int32} (h : q ≠ p) : zms mem p k v q = mem q := by simp [zms, zmr, h]
theorem zms_nk {mem : zM} {p k j : Nat} {v : Int32} (h : j ≠ k) : zms mem p k v p j = mem p j := by simp [zms, zmr, upd, h]
theorem zmr_ss {mem : zM} {p : Nat} {f : Nat → Int32} : zmr mem p f p = f := by simp [zmr]
theorem zmr_ne {mem : zM} {p q : Nat} {f : Nat → Int32} (h : q ≠ p) : zmr mem p f q = mem q := by simp [zmr, h]
/-- a byte -/
def zB (x : Int32) : Prop := ∃ b : Nat, b < 256 ∧ x = nI b
def bI (x : Int32) : Int32 := if x < 0 then 0 else if 255 < x then 0 else 1
theorem bI_B {x : Int32} (h : bI x = 1) : zB x := by
  unfold bI at h
  by_cases h0 : x < 0
  · rw [if_pos h0] at h; exact absurd h (by decide)
  · rw [if_neg h0] at h
    by_cases h1 : 255 < x
    · rw [if_pos h1] at h; exact absurd h (by decide)
    · obtain ⟨j, hj, e⟩ := nI_of2 (x := x) (M := 255) (n := 255) (by decide) h0 (Int32.not_lt.mp h1)
      exact ⟨j, by omega, e⟩
/-- the prefix codes' rows: the listed symbols; what is not listed has no bits -/
def zLst (c n : Nat) (mem : zM) (l : List Nat) : Prop := l.length ≤ 64 ∧ (∀ s ∈ l, s < n) ∧ mem c 6 = nI l.length ∧ (∀ k, k < l.length → mem (c + 1) k = nI (l.getD k 0)) ∧ ∀ s, s < n → s ∉ l → mem (c + 3) s = 0
def zCode (c n b : Nat) (mem : zM) : Prop := mem c 0 = nI n ∧ mem c 1 = nI b ∧ ∃ l, zLst c n mem l
def zCodes : List (Nat × Nat × Nat) := [(11, 256, 8), (16, 256, 8), (21, 32, 5), (26, 14, 4), (48, 256, 8), (53, 256, 8), (58, 32, 5), (63, 14, 4)]
def zKeep (mem : zM) : Prop := ∀ t ∈ zCodes, zCode t.1 t.2.1 t.2.2 mem
theorem zCodes_in : ∀ t ∈ zCodes, 11 ≤ t.1 ∧ t.1 + 4 ≤ 67 := by decide
theorem zCodes_off : ∀ t ∈ zCodes, (11 ≤ t.1 ∧ t.1 + 4 ≤ 30) ∨ (48 ≤ t.1 ∧ t.1 + 4 ≤ 67) := by decide
theorem zCode_of {c n b : Nat} {m m' : zM} (h0 : m' c = m c) (h1 : m' (c + 1) = m (c + 1)) (h3 : m' (c + 3) = m (c + 3)) (h : zCode c n b m) : zCode c n b m' := by
  unfold zCode zLst at h ⊢
  rw [h0, h1, h3]
  exact h
theorem zKeep_of {m m' : zM} (h : ∀ q, 11 ≤ q → q ≤ 67 → m' q = m q) (hK : zKeep m) : zKeep m' := by
  intro t ht
  obtain ⟨a, b⟩ := zCodes_in t ht
  exact zCode_of (h _ (by omega) (by omega)) (h _ (by omega) (by omega)) (h _ (by omega) (by omega)) (hK t ht)
/-- class and reference hold the same -/
def zI0 (mem : zM) (n sz : Nat) : Prop := n ≤ 96 ∧ sz ≤ 200 ∧ mem 1 1 = nI n ∧ mem 68 0 = nI n ∧ mem 3 1 = nI sz ∧ mem 68 2 = nI sz ∧ (∀ i, i < n → mem 2 i = mem 69 i ∧ zB (mem 2 i)) ∧ (∀ i, i < sz → mem 4 i = mem 70 i) ∧ (∀ i, i < 200 → zB (mem 4 i)) ∧ (∀ k, k < 4 → mem 5 k = mem 68 (4 + k)) ∧ zKeep mem
def zInv (mem : zM) : Prop := ∃ n sz, zI0 mem n sz
section
variable {κ : zK} {d : Nat} {mem : zM} {Q : Option zV → zM → Prop}
theorem s_Rp_isByte {x : Int32} (h : Q (some (.inl (bI x))) mem) : zR κ d Y_Rp_isByte 0 [some (.inl x)] [] mem Q := by
  refine w_Rp_isByte_0 ⟨fun h0 => ?_, fun h0 => ⟨fun h1 => ?_, fun h1 => ?_⟩⟩
  · rw [bI, if_pos h0] at h; exact h
  · rw [bI, if_neg h0, if_pos h1] at h; exact h
  · rw [bI, if_neg h0, if_neg h1] at h; exact h
theorem s_Mo_isByte {x : Int32} (h : Q (some (.inl (bI x))) mem) : zR κ d Y_Mo_isByte 0 [some (.inl x)] [] mem Q := by
  refine w_Mo_isByte_0 ⟨fun h0 => ?_, fun h0 => ⟨fun h1 => ?_, fun h1 => ?_⟩⟩
  · rw [bI, if_pos h0] at h; exact h
  · rw [bI, if_neg h0, if_pos h1] at h; exact h
  · rw [bI, if_neg h0, if_neg h1] at h; exact h
theorem bI_01 (x : Int32) : bI x = 0 ∨ bI x = 1 := by
  unfold bI
  split
  · exact Or.inl rfl
  · split
    · exact Or.inl rfl
    · exact Or.inr rfl
theorem bI_n0 {x : Int32} (h : ¬ bI x = 0) : bI x = 1 := by
  rcases bI_01 x with h1 | h1
  · exact absurd h1 h
  · exact h1
theorem s_Text_add {c n : Nat} {x : Int32} (hc : is_Text c) (hn : mem c 1 = nI n) (h96 : n ≤ 96) (h1 : bI x = 1 → n < 96 → Q (some (.inl 1)) (zms (zms mem (c + 1) n x) c 1 (nI (n + 1)))) (h0 : ¬ (bI x = 1 ∧ n < 96) → Q (some (.inl 0)) mem) : zR κ (d + 1) Y_Text_add 0 [some (.inr c), some (.inl x)] [] mem Q := by
  refine w_Text_add_0 hc (s_Rp_isByte ⟨bI x, rfl, fun hb => h0 (fun q => absurd (hb.symm.trans q.1) (by decide)), fun hb => ⟨fun hl => ?_, fun hl => ?_⟩⟩)
  · rw [hn] at hl
    have hlt : n < 96 := (nI_ltI (by omega) (by omega)).mp (show nI n < nI 96 from hl)
    have e : (zms mem (c + 1) (mem c 1).toNatClampNeg x) c 1 = nI n := by rw [zms_ne (by omega)]; exact hn
    rw [e, hn, nI_clamp (by omega), nI_1]
    exact ⟨vp_in_nI hlt (by decide), h1 (bI_n0 hb) hlt⟩
  · rw [hn] at hl
    exact h0 (fun q => hl (show nI n < nI 96 from nI_lt q.2 (by decide)))
theorem s_Mo_put {n : Nat} {x : Int32} (hn : mem 68 0 = nI n) (h96 : n ≤ 96) (h1 : bI x = 1 → n < 96 → Q (some (.inl 1)) (zms (zms mem 69 n x) 68 0 (nI (n + 1)))) (h0 : ¬ (bI x = 1 ∧ n < 96) → Q (some (.inl 0)) mem) : zR κ (d + 1) Y_Mo_put 0 [some (.inr 68), some (.inl x)] [] mem Q := by
  refine w_Mo_put_0 (s_Mo_isByte ⟨bI x, rfl, fun hb => h0 (fun q => absurd (hb.symm.trans q.1) (by decide)), fun hb => ⟨fun hl => ?_, fun hl => ?_⟩⟩)
  · rw [hn] at hl
    have hlt : n < 96 := by
      rcases Nat.lt_or_ge n 96 with q | q
      · exact q
      · exact absurd (show nI n = nI 96 by rw [show n = 96 by omega]) hl
    rw [hn, nI_clamp (by omega), nI_1]
    exact ⟨vp_in_nI hlt (by decide), h1 (bI_n0 hb) hlt⟩
  · rw [hn] at hl
    exact h0 (fun q => by
      have := (nI_eq (a := n) (b := 96) (by omega) (by decide)).mp hl
      omega)
theorem op_put {x : Int32} (hI : zInv mem) : zR κ (d + 2) Y_Rp_put 0 [some (.inr 0), some (.inl x)] [] mem (fun r m1 => ∃ y1 : Int32, r = some (.inl y1) ∧ zR κ (d + 2) Y_Mo_put 0 [some (.inr 68), some (.inl x)] [] m1 (fun r m2 => ∃ y2 : Int32, r = some (.inl y2) ∧ y1 = y2 ∧ zInv m2)) := by
  obtain ⟨n, sz, hn, hs, e1, e2, e3, e4, hT, hB, hB2, hC, hK⟩ := hI
  refine w_Rp_put_0 (s_Text_add is_Text_1 e1 hn (fun hb hl => ⟨1, rfl, Or.inr rfl, 1, rfl, ?_⟩) (fun hb => ⟨0, rfl, Or.inl rfl, 0, rfl, ?_⟩))
  · refine s_Mo_put (n := n) (by simp [zms, zmr, upd, e2]) hn (fun _ _ => ⟨1, rfl, rfl, n + 1, sz, ?_⟩) (fun q => absurd ⟨hb, hl⟩ q)
    refine ⟨by omega, hs, by simp [zms, zmr, upd], by simp [zms, zmr, upd], by simpa [zms, zmr, upd] using e3, by simpa [zms, zmr, upd] using e4, fun i hi => ?_, fun i hi => by simpa [zms, zmr, upd] using hB i hi, fun i hi => by simpa [zms, zmr, upd] using hB2 i hi, fun k hk => ?_, zKeep_of (fun q h1 h2 => ?_) hK⟩
    · by_cases hin : i = n
      · subst hin
        simp [zms, zmr, upd]
        exact bI_B hb
      · simpa [zms, zmr, upd, hin] using hT i (by omega)
    · have h5 := hC k hk
      have hk0 : ¬ 4 + k = 0 := by omega
      simpa [zms, zmr, upd, hk0] using h5
    · have a1 : q ≠ 68 := by omega
      have a2 : q ≠ 69 := by omega
      have a3 : q ≠ 1 := by omega
      have a4 : q ≠ 1 + 1 := by omega
      rw [zms_ne a1, zms_ne a2, zms_ne a3, zms_ne a4]
  · exact s_Mo_put e2 hn (fun a b => absurd ⟨a, b⟩ hb) (fun _ => ⟨0, rfl, rfl, n, sz, hn, hs, e1, e2, e3, e4, hT, hB, hB2, hC, hK⟩)
theorem op_clear (hI : zInv mem) : zR κ (d + 2) Y_Rp_clear 0 [some (.inr 0)] [] mem (fun r m1 => r = none ∧ zR κ (d + 2) Y_Mo_clear 0 [some (.inr 68)] [] m1 (fun r m2 => r = none ∧ zInv m2)) := by
  obtain ⟨n, sz, hn, hs, e1, e2, e3, e4, hT, hB, hB2, hC, hK⟩ := hI
  refine w_Rp_clear_0 (w_Text_makeEmpty_0 is_Text_1 ⟨rfl, rfl, w_Mo_clear_0 ⟨rfl, 0, sz, ?_⟩⟩)
  refine ⟨by omega, hs, by simp [zms, zmr, upd, nI_0], by simp [zms, zmr, upd, nI_0], by simpa [zms, zmr, upd] using e3, by simpa [zms, zmr, upd] using e4, fun i hi => absurd hi (Nat.not_lt_zero i), fun i hi => by simpa [zms, zmr, upd] using hB i hi, fun i hi => by simpa [zms, zmr, upd] using hB2 i hi, fun k hk => ?_, zKeep_of (fun q h1 h2 => ?_) hK⟩
  · have h5 := hC k hk
    have hk0 : ¬ 4 + k = 0 := by omega
    simpa [zms, zmr, upd, hk0] using h5
  · have a1 : q ≠ 68 := by omega
    have a3 : q ≠ 1 := by omega
    rw [zms_ne a1, zms_ne a3]
theorem op_length (hI : zInv mem) : zR κ (d + 2) Y_Rp_length 0 [some (.inr 0)] [] mem (fun r m1 => ∃ y1 : Int32, r = some (.inl y1) ∧ zR κ (d + 2) Y_Mo_length 0 [some (.inr 68)] [] m1 (fun r m2 => ∃ y2 : Int32, r = some (.inl y2) ∧ y1 = y2 ∧ zInv m2)) := by
  have hI' := hI
  obtain ⟨n, sz, hn, hs, e1, e2, -⟩ := hI
  exact w_Rp_length_0 ⟨_, rfl, w_Mo_length_0 ⟨_, rfl, e1.trans e2.symm, hI'⟩⟩
theorem op_size (hI : zInv mem) : zR κ (d + 2) Y_Rp_size 0 [some (.inr 0)] [] mem (fun r m1 => ∃ y1 : Int32, r = some (.inl y1) ∧ zR κ (d + 2) Y_Mo_size 0 [some (.inr 68)] [] m1 (fun r m2 => ∃ y2 : Int32, r = some (.inl y2) ∧ y1 = y2 ∧ zInv m2)) := by
  have hI' := hI
  obtain ⟨n, sz, hn, hs, e1, e2, e3, e4, -⟩ := hI
  exact w_Rp_size_0 ⟨_, rfl, w_Mo_size_0 ⟨_, rfl, e3.trans e4.symm, hI'⟩⟩
theorem op_coded (hI : zInv mem) : zR κ (d + 2) Y_Rp_coded 0 [some (.inr 0)] [] mem (fun r m1 => ∃ y1 : Int32, r = some (.inl y1) ∧ zR κ (d + 2) Y_Mo_coded 0 [some (.inr 68)] [] m1 (fun r m2 => ∃ y2 : Int32, r = some (.inl y2) ∧ y1 = y2 ∧ zInv m2)) := by
  have hI' := hI
  obtain ⟨n, sz, hn, hs, e1, e2, e3, e4, hT, hB, hB2, hC, hK⟩ := hI
  exact w_Rp_coded_0 ⟨_, rfl, w_Mo_coded_0 ⟨_, rfl, hC 0 (by decide), hI'⟩⟩
theorem op_copies (hI : zInv mem) : zR κ (d + 2) Y_Rp_copies 0 [some (.inr 0)] [] mem (fun r m1 => ∃ y1 : Int32, r = some (.inl y1) ∧ zR κ (d + 2) Y_Mo_copies 0 [some (.inr 68)] [] m1 (fun r m2 => ∃ y2 : Int32, r = some (.inl y2) ∧ y1 = y2 ∧ zInv m2)) := by
  have hI' := hI
  obtain ⟨n, sz, hn, hs, e1, e2, e3, e4, hT, hB, hB2, hC, hK⟩ := hI
  exact w_Rp_copies_0 ⟨_, rfl, w_Mo_copies_0 ⟨_, rfl, hC 1 (by decide), hI'⟩⟩
theorem op_words (hI : zInv mem) : zR κ (d + 2) Y_Rp_words 0 [some (.inr 0)] [] mem (fun r m1 => ∃ y1 : Int32, r = some (.inl y1) ∧ zR κ (d + 2) Y_Mo_words 0 [some (.inr 68)] [] m1 (fun r m2 => ∃ y2 : Int32, r = some (.inl y2) ∧ y1 = y2 ∧ zInv m2)) := by
  have hI' := hI
  obtain ⟨n, sz, hn, hs, e1, e2, e3, e4, hT, hB, hB2, hC, hK⟩ := hI
  exact w_Rp_words_0 ⟨_, rfl, w_Mo_words_0 ⟨_, rfl, hC 2 (by decide), hI'⟩⟩
theorem op_symbols (hI : zInv mem) : zR κ (d + 2) Y_Rp_symbols 0 [some (.inr 0)] [] mem (fun r m1 => ∃ y1 : Int32, r = some (.inl y1) ∧ zR κ (d + 2) Y_Mo_symbols 0 [some (.inr 68)] [] m1 (fun r m2 => ∃ y2 : Int32, r = some (.inl y2) ∧ y1 = y2 ∧ zInv m2)) := by
  have hI' := hI
  obtain ⟨n, sz, hn, hs, e1, e2, e3, e4, hT, hB, hB2, hC, hK⟩ := hI
  exact w_Rp_symbols_0 ⟨_, rfl, w_Mo_symbols_0 ⟨_, rfl, hC 3 (by decide), hI'⟩⟩
theorem op_at {x : Int32} (hI : zInv mem) : zR κ (d + 2) Y_Rp_at 0 [some (.inr 0), some (.inl x)] [] mem (fun r m1 => ∃ y1 : Int32, r = some (.inl y1) ∧ zR κ (d + 2) Y_Mo_at 0 [some (.inr 68), some (.inl x)] [] m1 (fun r m2 => ∃ y2 : Int32, r = some (.inl y2) ∧ y1 = y2 ∧ zInv m2)) := by
  have hI' := hI
  obtain ⟨n, sz, hn, hs, e1, e2, e3, e4, hT, hB, hB2, hC, hK⟩ := hI
  refine w_Rp_at_0 (w_Text_get_0 is_Text_1 ⟨fun h0 => ⟨_, rfl, _, rfl, w_Mo_at_0 ⟨fun _ => ⟨_, rfl, rfl, hI'⟩, fun q => absurd h0 q⟩⟩, fun h0 => ⟨fun h1 => ⟨_, rfl, _, rfl, w_Mo_at_0 ⟨fun q => absurd q h0, fun _ => ⟨fun _ => ⟨_, rfl, rfl, hI'⟩, fun q => ?_⟩⟩⟩, fun h1 => ?_⟩⟩)
  · rw [e2, ← e1] at q
    exact absurd h1 q
  · obtain ⟨j, hj, rfl⟩ := nI_of h0
    have hjn : j < n := by
      rcases Nat.lt_or_ge j n with q | q
      · exact q
      · rw [e1] at h1
        exact absurd (nI_le q hj) h1
    refine ⟨vp_in_nI (by omega) (by decide), _, rfl, _, rfl, w_Mo_at_0 ⟨fun q => absurd q h0, fun _ => ⟨fun q => ?_, fun _ => ⟨vp_in_nI (by omega) (by decide), _, rfl, ?_, hI'⟩⟩⟩⟩
    · rw [e2, ← e1] at q
      exact absurd q h1
    · rw [nI_clamp hj]
      exact (hT j hjn).1
theorem op_byteAt {x : Int32} (hI : zInv mem) : zR κ (d + 2) Y_Rp_byteAt 0 [some (.inr 0), some (.inl x)] [] mem (fun r m1 => ∃ y1 : Int32, r = some (.inl y1) ∧ zR κ (d + 2) Y_Mo_byteAt 0 [some (.inr 68), some (.inl x)] [] m1 (fun r m2 => ∃ y2 : Int32, r = some (.inl y2) ∧ y1 = y2 ∧ zInv m2)) := by
  have hI' := hI
  obtain ⟨n, sz, hn, hs, e1, e2, e3, e4, hT, hB, hB2, hC, hK⟩ := hI
  refine w_Rp_byteAt_0 (w_BitStream_get_0 ⟨fun h0 => ⟨_, rfl, _, rfl, w_Mo_byteAt_0 ⟨fun _ => ⟨_, rfl, rfl, hI'⟩, fun q => absurd h0 q⟩⟩, fun h0 => ⟨fun h1 => ⟨_, rfl, _, rfl, w_Mo_byteAt_0 ⟨fun q => absurd q h0, fun _ => ⟨fun _ => ⟨_, rfl, rfl, hI'⟩, fun q => ?_⟩⟩⟩, fun h1 => ?_⟩⟩)
  · rw [e4, ← e3] at q
    exact absurd h1 q
  · obtain ⟨j, hj, rfl⟩ := nI_of h0
    have hjn : j < sz := by
      rcases Nat.lt_or_ge j sz with q | q
      · exact q
      · rw [e3] at h1
        exact absurd (nI_le q hj) h1
    refine ⟨vp_in_nI (by omega) (by decide), _, rfl, _, rfl, w_Mo_byteAt_0 ⟨fun q => absurd q h0, fun _ => ⟨fun q => ?_, fun _ => ⟨vp_in_nI (by omega) (by decide), _, rfl, ?_, hI'⟩⟩⟩⟩
    · rw [e4, ← e3] at q
      exact absurd q h1
    · rw [nI_clamp hj]
      exact hB j hjn
end
end zSimple
