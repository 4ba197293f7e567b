/-! short runs: resets; unpack of an empty stream; pack of an empty text; the end of pack -/
section zEnds
variable {κ : zK} {d : Nat} {mem : zM} {Q : Option zV → zM → Prop}
theorem zms_zms {m : zM} {p k : Nat} {u v : Int32} : zms (zms m p k u) p k v = zms m p k v := by
  funext q j
  by_cases hq : q = p
  · subst hq
    by_cases hj : j = k
    · subst hj
      rw [zms_ss, zms_ss]
    · rw [zms_nk hj, zms_nk hj, zms_nk hj]
  · rw [zms_ne hq, zms_ne hq, zms_ne hq]
theorem s_Ring_reset {c : Nat} (hc : is_Ring c) (hQ : ∀ m', (∀ q, q ≠ c + 1 → m' q = mem q) → (∀ k, k < 4 → m' (c + 1) k = nI (2 ^ k)) → Q none m') : zR κ d Y_Ring_reset 0 [some (.inr c), none] [] mem Q := by
  refine w_Ring_reset_0 hc (w_Ring_reset_2 hc ⟨fun q => absurd q (by decide), fun _ => ⟨vp_in_nI (n := 0) (by decide) (by decide), ?_⟩⟩)
  refine w_Ring_reset_2 hc ⟨fun q => absurd q (by decide), fun _ => ⟨vp_in_nI (n := 1) (by decide) (by decide), ?_⟩⟩
  refine w_Ring_reset_2 hc ⟨fun q => absurd q (by decide), fun _ => ⟨vp_in_nI (n := 2) (by decide) (by decide), ?_⟩⟩
  refine w_Ring_reset_2 hc ⟨fun q => absurd q (by decide), fun _ => ⟨vp_in_nI (n := 3) (by decide) (by decide), ?_⟩⟩
  refine w_Ring_reset_2 hc ⟨fun _ => hQ _ (fun q h => ?_) (fun k hk => ?_), fun q => absurd (by decide) q⟩
  · rw [zms_ne h, zms_ne h, zms_ne h, zms_ne h]
  · rw [show (0 : Int32).toNatClampNeg = 0 from by decide, show (0 + 1 : Int32).toNatClampNeg = 1 from by decide, show (0 + 1 + 1 : Int32).toNatClampNeg = 2 from by decide, show (0 + 1 + 1 + 1 : Int32).toNatClampNeg = 3 from by decide]
    rcases (show k = 0 ∨ k = 1 ∨ k = 2 ∨ k = 3 by omega) with rfl | rfl | rfl | rfl
    · rw [zms_nk (by decide), zms_nk (by decide), zms_nk (by decide), zms_ss]; decide
    · rw [zms_nk (by decide), zms_nk (by decide), zms_ss]; decide
    · rw [zms_nk (by decide), zms_ss]; decide
    · rw [zms_ss]; decide
theorem s_Mo_counts (hQ : ∀ m', (∀ q, q ≠ 68 → q ≠ 75 → m' q = mem q) → (∀ k, k < 4 → m' 75 k = nI (2 ^ k)) → (∀ k, k < 4 ∨ 8 ≤ k → m' 68 k = mem 68 k) → (∀ k, 4 ≤ k → k < 8 → m' 68 k = 0) → Q none m') : zR κ d Y_Mo_counts 0 [some (.inr 68), none] [] mem Q := by
  refine w_Mo_counts_0 (w_Mo_counts_22 ⟨fun q => absurd q (by decide), fun _ => ⟨vp_in_nI (n := 0) (by decide) (by decide), ?_⟩⟩)
  refine w_Mo_counts_22 ⟨fun q => absurd q (by decide), fun _ => ⟨vp_in_nI (n := 1) (by decide) (by decide), ?_⟩⟩
  refine w_Mo_counts_22 ⟨fun q => absurd q (by decide), fun _ => ⟨vp_in_nI (n := 2) (by decide) (by decide), ?_⟩⟩
  refine w_Mo_counts_22 ⟨fun q => absurd q (by decide), fun _ => ⟨vp_in_nI (n := 3) (by decide) (by decide), ?_⟩⟩
  refine w_Mo_counts_22 ⟨fun _ => hQ _ (fun q h h2 => ?_) (fun k hk => ?_) (fun k hk => ?_) (fun k h1 h2 => ?_), fun q => absurd (by decide) q⟩
  · rw [zms_ne h2, zms_ne h2, zms_ne h2, zms_ne h2, zms_ne h, zms_ne h, zms_ne h, zms_ne h]
  · rw [show (0 : Int32).toNatClampNeg = 0 from by decide, show (0 + 1 : Int32).toNatClampNeg = 1 from by decide, show (0 + 1 + 1 : Int32).toNatClampNeg = 2 from by decide, show (0 + 1 + 1 + 1 : Int32).toNatClampNeg = 3 from by decide]
    rcases (show k = 0 ∨ k = 1 ∨ k = 2 ∨ k = 3 by omega) with rfl | rfl | rfl | rfl
    · rw [zms_nk (by decide), zms_nk (by decide), zms_nk (by decide), zms_ss]; decide
    · rw [zms_nk (by decide), zms_nk (by decide), zms_ss]; decide
    · rw [zms_nk (by decide), zms_ss]; decide
    · rw [zms_ss]; decide
  · rw [zms_ne (by decide), zms_ne (by decide), zms_ne (by decide), zms_ne (by decide), zms_nk (by omega), zms_nk (by omega), zms_nk (by omega), zms_nk (by omega)]
  · rw [zms_ne (by decide), zms_ne (by decide), zms_ne (by decide), zms_ne (by decide)]
    rcases (show k = 4 ∨ k = 5 ∨ k = 6 ∨ k = 7 by omega) with rfl | rfl | rfl | rfl
    · rw [zms_nk (by decide), zms_nk (by decide), zms_nk (by decide), zms_ss]
    · rw [zms_nk (by decide), zms_nk (by decide), zms_ss]
    · rw [zms_nk (by decide), zms_ss]
    · rw [zms_ss]
theorem s_take_over_loop {n : Nat} (hn : n ≤ 31) : ∀ (r k : Nat) (m : zM), k + r = n → ¬ m 3 2 < 8 * m 3 1 → m 3 3 = 1 → Q (some (.inl 0)) m → zR κ d Y_BitStream_take 4 [some (.inr 3), some (.inl (nI n)), some (.inl 0), some (.inl (nI k))] [] m Q := by
  intro r
  induction r with
  | zero =>
    intro k m hk h0 h1 hQ
    exact w_BitStream_take_4 ⟨fun _ => hQ, fun q => absurd (nI_le (by omega) (by omega)) q⟩
  | succ r ih =>
    intro k m hk h0 h1 hQ
    have e : zms m 3 3 1 = m := by
      funext q j
      by_cases hq : q = 3
      · subst hq
        by_cases hj : j = 3
        · subst hj; rw [zms_ss, h1]
        · rw [zms_nk hj]
      · rw [zms_ne hq]
    refine w_BitStream_take_4 ⟨fun q => absurd q (nI_ge (by omega) (by omega)), fun _ => ⟨fun q => absurd q h0, fun _ => ?_⟩⟩
    rw [e, nI_1]
    exact ih (k + 1) m (by omega) h0 h1 hQ
/-- behind the end of the stream -/
theorem s_take_over {n : Nat} (h1 : 1 ≤ n) (hn : n ≤ 31) (h0 : ¬ mem 3 2 < 8 * mem 3 1) (hQ : Q (some (.inl 0)) (zms mem 3 3 1)) : zR κ d Y_BitStream_take 0 [some (.inr 3), some (.inl (nI n)), none, none] [] mem Q := by
  refine w_BitStream_take_0 (w_BitStream_take_4 ⟨fun q => absurd q (nI_ge (a := 0) (b := n) (by omega) (by omega)), fun _ => ⟨fun q => absurd q h0, fun _ => ?_⟩⟩)
  exact s_take_over_loop hn (n - 1) 1 (zms mem 3 3 1) (by omega) (by rw [zms_nk (by decide), zms_nk (by decide)]; exact h0) (by rw [zms_ss]) hQ
theorem s_Mo_take_over {n : Nat} (h1 : 1 ≤ n) (hn : n ≤ 31) (h0 : ¬ mem 68 8 < 8 * mem 68 2) (hQ : Q (some (.inl 0)) (zms mem 68 28 1)) : zR κ d Y_Mo_take 0 [some (.inr 68), some (.inl (nI n)), none, none] [] mem Q :=
  w_Mo_take_0 (w_Mo_take_4 ⟨fun q => absurd q (nI_ge (a := 0) (b := n) (by omega) (by omega)), fun _ => ⟨fun q => absurd q h0, fun _ => hQ⟩⟩)
theorem op_unpack_empty {n : Nat} (hI : zI0 mem n 0) : zR κ (d + 5) Y_Rp_unpack 0 [some (.inr 0)] [] mem (fun r m1 => ∃ y1 : Int32, r = some (.inl y1) ∧ zR κ (d + 5) Y_Mo_unpack 0 [some (.inr 68), none, none, none, none, none, none] [] m1 (fun r m2 => ∃ y2 : Int32, r = some (.inl y2) ∧ y1 = y2 ∧ zInv m2)) := by
  obtain ⟨hn, hs, e1, e2, e3, e4, hT, hB, hB2, hC, hK⟩ := hI
  refine w_Rp_unpack_0 (w_Unpacker_readAll_0 (w_Text_makeEmpty_0 is_Text_42 ⟨rfl, w_Counts_reset_0 is_Counts_44 ⟨rfl, s_Ring_reset is_Ring_45 (fun m3 a1 a2 => ⟨rfl, w_BitStream_startReading_0 ⟨rfl, ?_⟩⟩)⟩⟩))
  have b1 : m3 3 1 = 0 := by rw [a1 3 (by decide), zms_ne (by decide), zms_ne (by decide), zms_ne (by decide), zms_ne (by decide), zms_ne (by decide), e3]; rfl
  generalize hm4 : zms (zms m3 3 2 0) 3 3 0 = m4
  have c1 : ¬ m4 3 2 < 8 * m4 3 1 := by
    rw [← hm4, zms_nk (by decide), zms_ss, zms_nk (by decide), zms_nk (by decide), b1]
    decide
  have fr : ∀ q, q ≠ 3 → q ≠ 42 → q ≠ 44 → q ≠ 46 → m4 q = mem q := by
    intro q h1 h2 h3 h4
    rw [← hm4, zms_ne h1, zms_ne h1, a1 q h4, zms_ne h3, zms_ne h3, zms_ne h3, zms_ne h3, zms_ne h2]
  have c2 : ¬ (zms m4 3 3 1) 3 2 < 8 * (zms m4 3 3 1) 3 1 := by rw [zms_nk (by decide), zms_nk (by decide)]; exact c1
  refine w_Unpacker_readAll_29 ⟨fun q => absurd q (by decide), fun _ => ⟨fun q => absurd rfl q, fun _ => ?_⟩⟩
  refine s_take_over (n := 1) (by decide) (by decide) c1 ⟨0, rfl, fun _ => ?_, fun q => absurd q (by decide)⟩
  refine w_Unpacker_readAll_53 ⟨fun _ => ?_, fun q => absurd rfl q⟩
  refine w_Unpacker_readAll_70 (s_take_over (n := 1) (by decide) (by decide) c2 ⟨0, rfl, fun _ => ?_, fun q => absurd q (by decide)⟩)
  rw [zms_zms]
  refine w_Unpacker_readAll_84 (s_take_over (n := 6) (by decide) (by decide) c2 ⟨0, rfl, fun _ => ?_, fun q => absurd (by rw [zms_ss] at q; exact q) (by decide)⟩)
  rw [zms_zms]
  refine ⟨0, rfl, fun q => absurd rfl q, fun _ => ⟨_, rfl, ?_⟩⟩
  have g1 : ∀ q, q ≠ 3 → q ≠ 42 → q ≠ 44 → q ≠ 46 → (zms m4 3 3 1) q = mem q := fun q h1 h2 h3 h4 => by rw [zms_ne h1]; exact fr q h1 h2 h3 h4
  have g2 : (zms m4 3 3 1) 3 1 = 0 := by rw [zms_nk (by decide), ← hm4, zms_nk (by decide), zms_nk (by decide)]; exact b1
  generalize zms m4 3 3 1 = m5 at g1 g2
  have g68 : m5 68 = mem 68 := g1 68 (by decide) (by decide) (by decide) (by decide)
  refine w_Mo_unpack_0 (s_Mo_counts (fun m6 d1 d2 d3 d4 => ⟨rfl, ?_⟩))
  generalize hm7 : zms (zms (zms m6 68 8 0) 68 29 0) 68 28 0 = m7
  have f8 : m7 68 8 = 0 := by rw [← hm7, zms_nk (by decide), zms_nk (by decide), zms_ss]
  have f2 : m7 68 2 = 0 := by rw [← hm7, zms_nk (by decide), zms_nk (by decide), zms_nk (by decide), d3 2 (by decide), g68, e4]; rfl
  have f28 : m7 68 28 = 0 := by rw [← hm7, zms_ss]
  have k1 : ¬ m7 68 8 < 8 * m7 68 2 := by rw [f8, f2]; decide
  have k2 : ¬ (zms m7 68 28 1) 68 8 < 8 * (zms m7 68 28 1) 68 2 := by rw [zms_nk (by decide), zms_nk (by decide)]; exact k1
  have k3 : (zms m7 68 28 1) 68 8 - (zms m7 68 28 1) 68 8 / 8 * 8 ≤ 0 := by rw [zms_nk (by decide), f8]; decide
  have k4 : ¬ (zms m7 68 28 1) 68 28 = 0 := by rw [zms_ss]; decide
  refine w_Mo_unpack_43 ⟨fun q => absurd rfl q, fun _ => ⟨fun q => absurd f28 q, fun _ => ?_⟩⟩
  refine w_Mo_readBlock_0 (s_Mo_take_over (n := 1) (by decide) (by decide) k1 ⟨0, rfl, fun _ => ?_, fun q => absurd q (by decide)⟩)
  refine w_Mo_readBlock_14 ⟨fun _ => ?_, fun q => absurd rfl q⟩
  refine w_Mo_readBlock_30 (s_Mo_take_over (n := 1) (by decide) (by decide) k2 ⟨0, rfl, fun _ => ?_, fun q => absurd q (by decide)⟩)
  rw [zms_zms]
  refine w_Mo_readBlock_44 (s_Mo_take_over (n := 6) (by decide) (by decide) k2 ⟨0, rfl, fun _ => ?_, fun q => absurd rfl q⟩)
  rw [zms_zms]
  refine w_Mo_pad_0 ⟨fun _ => ⟨rfl, ?_⟩, fun q => absurd k3 q⟩
  refine w_Mo_readBlock_74 ⟨fun _ => ⟨Or.inl rfl, 0, rfl, ?_⟩, fun q => absurd q k4⟩
  refine w_Mo_unpack_43 ⟨fun q => absurd rfl q, fun _ => ⟨fun _ => ?_, fun q => absurd q k4⟩⟩
  refine w_Mo_unpack_64 (w_Mo_pad_0 ⟨fun _ => ⟨rfl, fun _ => ?_, fun q => absurd q k4⟩, fun q => absurd k3 q⟩)
  refine w_Mo_unpack_89 ⟨_, rfl, rfl, n, 0, hn, hs, ?_⟩
  have w1 : ∀ q, q ≠ 3 → q ≠ 42 → q ≠ 44 → q ≠ 46 → q ≠ 68 → q ≠ 75 → (zms (zms (zms (zms (zms m7 68 28 1) 68 4 (m5 68 4)) 68 5 (m5 68 5)) 68 6 (m5 68 6)) 68 7 (m5 68 7)) q = mem q := by
    intro q h1 h2 h3 h4 h5 h6
    rw [zms_ne h5, zms_ne h5, zms_ne h5, zms_ne h5, zms_ne h5, ← hm7, zms_ne h5, zms_ne h5, zms_ne h5, d1 q h5 h6]
    exact g1 q h1 h2 h3 h4
  have w3 : (zms (zms (zms (zms (zms m7 68 28 1) 68 4 (m5 68 4)) 68 5 (m5 68 5)) 68 6 (m5 68 6)) 68 7 (m5 68 7)) 3 = m5 3 := by
    rw [zms_ne (by decide), zms_ne (by decide), zms_ne (by decide), zms_ne (by decide), zms_ne (by decide), ← hm7, zms_ne (by decide), zms_ne (by decide), zms_ne (by decide), d1 3 (by decide) (by decide)]
  have w4 : ∀ k, k < 8 → (zms (zms (zms (zms (zms m7 68 28 1) 68 4 (m5 68 4)) 68 5 (m5 68 5)) 68 6 (m5 68 6)) 68 7 (m5 68 7)) 68 k = mem 68 k := by
    intro k hk
    by_cases h7 : k = 7
    · subst h7; rw [zms_ss, g68]
    · rw [zms_nk h7]
      by_cases h6 : k = 6
      · subst h6; rw [zms_ss, g68]
      · rw [zms_nk h6]
        by_cases h5 : k = 5
        · subst h5; rw [zms_ss, g68]
        · rw [zms_nk h5]
          by_cases h4 : k = 4
          · subst h4; rw [zms_ss, g68]
          · rw [zms_nk h4, zms_nk (by omega), ← hm7, zms_nk (by omega), zms_nk (by omega), zms_nk (by omega), d3 k (by omega), g68]
  generalize zms (zms (zms (zms (zms m7 68 28 1) 68 4 (m5 68 4)) 68 5 (m5 68 5)) 68 6 (m5 68 6)) 68 7 (m5 68 7) = m9 at w1 w3 w4
  refine ⟨by rw [w1 1 (by decide) (by decide) (by decide) (by decide) (by decide) (by decide)]; exact e1, by rw [w4 0 (by decide)]; exact e2, by rw [w3]; exact g2, by rw [w4 2 (by decide)]; exact e4, ?_, ?_, ?_, ?_, ?_⟩
  · intro i hi
    rw [w1 2 (by decide) (by decide) (by decide) (by decide) (by decide) (by decide), w1 69 (by decide) (by decide) (by decide) (by decide) (by decide) (by decide)]
    exact hT i hi
  · intro i hi
    exact absurd hi (Nat.not_lt_zero i)
  · intro i hi
    rw [w1 4 (by decide) (by decide) (by decide) (by decide) (by decide) (by decide)]
    exact hB2 i hi
  · intro k hk
    rw [w1 5 (by decide) (by decide) (by decide) (by decide) (by decide) (by decide), w4 (4 + k) (by omega)]
    exact hC k hk
  · intro t ht
    have hin := zCodes_off t ht
    exact zCode_of (w1 _ (by omega) (by omega) (by omega) (by omega) (by omega) (by omega)) (w1 _ (by omega) (by omega) (by omega) (by omega) (by omega) (by omega)) (w1 _ (by omega) (by omega) (by omega) (by omega) (by omega) (by omega)) (hK t ht)
end zEnds
