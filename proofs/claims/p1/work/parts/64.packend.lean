/-! the end of pack on both sides; pack of an empty text -/
section zPackEnd
variable {κ : zK} {d : Nat} {Q : Option zV → zM → Prop}
theorem zneg7 {P : Nat} (h : P < 2 ^ 31) : (-(nI P)) &&& 7 = nI ((8 - P % 8) % 8) := by
  rw [pk_and (-(nI P)) (m := 7) 3 (by decide)]
  congr 1
  rw [Int32.toBitVec_neg, BitVec.toNat_neg, pk_tn (by omega)]
  omega
theorem zbits_0 (r : Nat) : zbits 0 0 r = List.replicate r false := by
  unfold zbits
  rw [List.eq_replicate_iff]
  refine ⟨by simp, fun b hb => ?_⟩
  obtain ⟨i, -, rfl⟩ := List.mem_map.mp hb
  unfold zib
  rw [show (0 : Int32) >>> (nI i &&& 31) = 0 from by simp]
  decide
/-- how many bits are wanting to a whole byte -/
def zpad (bs : List Bool) : List Bool := bs ++ List.replicate ((8 - bs.length % 8) % 8) false
theorem zpad_len (bs : List Bool) : (zpad bs).length % 8 = 0 ∧ (zpad bs).length ≤ bs.length + 7 ∧ bs.length ≤ (zpad bs).length := by
  unfold zpad
  rw [List.length_append, List.length_replicate]
  omega
theorem s_giveZ {mem : zM} {bs : List Bool} (h : zWB mem bs) (hl : bs.length ≤ 7000) (hQ : ∀ m', zWB m' (zpad bs) → zF34 mem m' → Q none m') : zR κ (d + 1) Y_BitStream_giveZerosToByteEnd 0 [some (.inr 3)] [] mem Q := by
  refine w_BitStream_giveZerosToByteEnd_0 ?_
  rw [h.1, zneg7 (by omega)]
  refine s_give (x := 0) (by omega) (by omega) h (fun m' g1 g2 => ⟨rfl, hQ m' ?_ g2⟩)
  rw [zbits_0] at g1
  exact g1
theorem s_finish {mem : zM} {bs : List Bool} (h : zWB mem bs) (hl : bs.length ≤ 1592) (hQ : ∀ m', zWB m' (zpad bs) → m' 3 1 = nI ((zpad bs).length / 8) → (∀ q, q ≠ 3 → q ≠ 4 → m' q = mem q) → Q none m') : zR κ (d + 2) Y_BitStream_finishWriting 0 [some (.inr 3)] [] mem Q := by
  obtain ⟨p1, p2, p3⟩ := zpad_len bs
  refine w_BitStream_finishWriting_0 (s_giveZ h (by omega) (fun m' g1 g2 => ⟨rfl, ?_⟩))
  have e : (m' 3 2) >>> (3 : Int32) = nI ((zpad bs).length / 8) := by rw [g1.1]; exact pk_shrN (by omega) 3 3 (by decide)
  rw [e, if_neg (show ¬ (200 : Int32) < nI ((zpad bs).length / 8) from nI_nlt (a := 200) (by omega) (by decide))]
  refine hQ _ ⟨by rw [zms_nk (by decide)]; exact g1.1, g1.2.1, fun k hk => by rw [zms_ne (by decide)]; exact g1.2.2.1 k hk, fun j h1 h2 => ?_⟩ zms_ss (fun q a b => by rw [zms_ne a]; exact g2.1 q a b)
  have := g1.2.2.2 j h1 h2
  unfold zbit at this ⊢
  rw [zms_ne (by decide)]
  exact this
theorem s_Counts_become {mem : zM} {c c1 : Nat} (hc : is_Counts c) (hc1 : is_Counts c1) (hne : c1 ≠ c) (hQ : ∀ m', (∀ q, q ≠ c → m' q = mem q) → (∀ k, k < 4 → m' c k = mem c1 k) → Q none m') : zR κ d Y_Counts_become 0 [some (.inr c), some (.inr c1)] [] mem Q := by
  refine w_Counts_become_0 hc hc1 (hQ _ (fun q h => ?_) (fun k hk => ?_))
  · rw [zms_ne h, zms_ne h, zms_ne h, zms_ne h]
  · rcases (show k = 0 ∨ k = 1 ∨ k = 2 ∨ k = 3 by omega) with rfl | rfl | rfl | rfl
    · rw [zms_nk (by decide), zms_nk (by decide), zms_nk (by decide), zms_ss]
    · rw [zms_nk (by decide), zms_nk (by decide), zms_ss, zms_ne hne]
    · rw [zms_nk (by decide), zms_ss, zms_ne hne, zms_ne hne]
    · rw [zms_ss, zms_ne hne, zms_ne hne, zms_ne hne]
/-- the reference's last zeros -/
theorem s_Mo_padW {x : Int32} : ∀ (r : Nat) (mem : zM) (bs : List Bool), (8 - bs.length % 8) % 8 = r → bs.length + r ≤ 4000 → zWM mem bs → (∀ m', zWM m' (bs ++ List.replicate r false) → zF68 mem m' → zR κ (d + 1) Y_Mo_pack 97 [some (.inr 68), some (.inl 0), none] [] (zms m' 68 2 (nI ((bs.length + r) / 8))) Q) → zR κ (d + 1) Y_Mo_pack 65 [some (.inr 68), some (.inl x), none] [] mem Q := by
  intro r
  induction r with
  | zero =>
    intro mem bs hr hl h hQ
    have hm : bs.length % 8 = 0 := by omega
    have e1 : mem 68 8 - mem 68 8 / 8 * 8 = nI (bs.length % 8) := by rw [h.1]; exact pk_rem (by omega) (by decide) (by decide)
    have e2 : mem 68 8 / 8 = nI (bs.length / 8) := by rw [h.1]; exact pk_div (by omega) (by decide) (by decide)
    refine w_Mo_pack_65 ⟨fun _ => ?_, fun q => absurd (by rw [e1, hm]; decide) q⟩
    rw [e2]
    exact hQ mem (by simpa using h) zF68.rf
  | succ r ih =>
    intro mem bs hr hl h hQ
    have e1 : mem 68 8 - mem 68 8 / 8 * 8 = nI (bs.length % 8) := by rw [h.1]; exact pk_rem (by omega) (by decide) (by decide)
    refine w_Mo_pack_65 ⟨fun q => absurd q (by rw [e1]; exact nI_nle (by omega) (by omega)), fun _ => ?_⟩
    refine s_number (x := 0) (n := 1) (by decide) (by omega) h (fun m' g1 g2 => ⟨rfl, ih m' (bs ++ zbits 0 0 1) ?_ ?_ g1 (fun m'' g3 g4 => ?_)⟩)
    · rw [List.length_append, zbits_length]; omega
    · rw [List.length_append, zbits_length]; omega
    · have e3 : bs ++ zbits 0 0 1 ++ List.replicate r false = bs ++ List.replicate (r + 1) false := by rw [zbits_0, List.append_assoc, List.replicate_succ]; rfl
      rw [e3] at g3
      have := hQ m'' g3 (g2.tr g4)
      rw [show (bs ++ zbits 0 0 1).length + r = bs.length + (r + 1) by rw [List.length_append, zbits_length]; omega]
      exact this
theorem zadd_bit {v b : Nat} (hv : v < 2 ^ b) (x : Bool) : v + x.toNat * 2 ^ b < 2 ^ (b + 1) ∧ (v + x.toNat * 2 ^ b).testBit b = x ∧ ∀ i, i < b → (v + x.toNat * 2 ^ b).testBit i = v.testBit i := by
  have e : v + x.toNat * 2 ^ b = 2 ^ b * x.toNat + v := by rw [Nat.mul_comm, Nat.add_comm]
  refine ⟨?_, ?_, fun i hi => ?_⟩
  · have : x.toNat ≤ 1 := by cases x <;> decide
    have h2 : x.toNat * 2 ^ b ≤ 1 * 2 ^ b := Nat.mul_le_mul_right _ this
    rw [Nat.pow_succ]
    omega
  · rw [e, Nat.testBit_two_pow_mul_add _ hv, if_neg (Nat.lt_irrefl b), Nat.sub_self]
    cases x <;> rfl
  · rw [e, Nat.testBit_two_pow_mul_add _ hv, if_pos hi]
/-- the reference's byte k out of its bits -/
theorem s_Mo_pack114 {bs : List Bool} {k : Nat} (hk : k < 200) (hb : 8 * k + 8 ≤ bs.length) : ∀ (r b : Nat) (mem : zM) (v : Nat), b + r = 8 → zWM mem bs → mem 70 k = nI v → v < 2 ^ b → (∀ i, i < b → v.testBit i = bs.getD (8 * k + i) false) →
    (∀ m', zWM m' bs → (∀ q, q ≠ 70 → m' q = mem q) → (∀ i, i ≠ k → m' 70 i = mem 70 i) → (∃ w, m' 70 k = nI w ∧ w < 256 ∧ ∀ i, i < 8 → w.testBit i = bs.getD (8 * k + i) false) → zR κ (d + 1) Y_Mo_pack 97 [some (.inr 68), some (.inl (nI (k + 1))), none] [] m' Q) →
    zR κ (d + 1) Y_Mo_pack 114 [some (.inr 68), some (.inl (nI k)), some (.inl (nI b))] [] mem Q := by
  intro r
  induction r with
  | zero =>
    intro b mem v hbr h e hv hvb hQ
    have hb8 : b = 8 := by omega
    subst hb8
    refine w_Mo_pack_114 ⟨fun _ => ?_, fun q => absurd (show nI 8 ≤ nI 8 from nI_le (Nat.le_refl _) (by decide)) q⟩
    rw [nI_1]
    exact hQ mem h (fun _ _ => rfl) (fun _ _ => rfl) ⟨v, e, hv, hvb⟩
  | succ r ih =>
    intro b mem v hbr h e hv hvb hQ
    have hjl : 8 * k + b < bs.length := by omega
    have e1 : (8 : Int32) * nI k + nI b = nI (8 * k + b) := by rw [show (8 : Int32) = nI 8 from rfl, pk_mul, nI_add]
    have e2 := h.2 (8 * k + b) hjl
    have hin : vp_in (nI k) 200 := vp_in_nI hk (by decide)
    have hlen : 8 * k + b < 4000 := by omega
    refine w_Mo_pack_114 ⟨fun q => absurd q (show ¬ nI 8 ≤ nI b from nI_ge (by omega) (by decide)), fun _ => ⟨hin, by rw [e1]; exact vp_in_nI hlen (by decide), hin, ?_⟩⟩
    obtain ⟨a1, a2, a3⟩ := zadd_bit hv (bs.getD (8 * k + b) false)
    have hx1 : (bs.getD (8 * k + b) false).toNat ≤ 1 := by cases bs.getD (8 * k + b) false <;> decide
    have hp : (2 : Nat) ^ b ≤ 2 ^ 7 := Nat.pow_le_pow_right (by decide) (by omega)
    have hp2 : (bs.getD (8 * k + b) false).toNat * 2 ^ b ≤ 1 * 2 ^ 7 := Nat.mul_le_mul hx1 hp
    rw [e1, nI_clamp (by omega), nI_clamp (by omega), e2, e, pk_shlN (nI b &&& 31) b (zs_l b (by omega)) (by omega), nI_add, nI_1]
    refine ih (b + 1) _ (v + (bs.getD (8 * k + b) false).toNat * 2 ^ b) (by omega) ⟨by rw [zms_ne (by decide)]; exact h.1, fun j hj => by rw [zms_ne (by decide)]; exact h.2 j hj⟩ zms_ss a1 (fun i hi => ?_) (fun m' g1 g2 g3 g4 => hQ m' g1 (fun q hq => ?_) (fun i hi => ?_) g4)
    · by_cases hib : i = b
      · subst hib; exact a2
      · rw [a3 i (by omega)]; exact hvb i (by omega)
    · rw [g2 q hq, zms_ne hq]
    · rw [g3 i hi, zms_nk hi]
/-- all bytes -/
theorem s_Mo_pack97 {bs : List Bool} {sz : Nat} (hs : sz ≤ 200) (hb : 8 * sz ≤ bs.length) : ∀ (r k : Nat) (mem : zM), k + r = sz → zWM mem bs → mem 68 2 = nI sz → (∀ j, j < k → ∃ w, mem 70 j = nI w ∧ w < 256 ∧ ∀ i, i < 8 → w.testBit i = bs.getD (8 * j + i) false) →
    (∀ m', (∀ q, q ≠ 70 → m' q = mem q) → (∀ j, j < sz → ∃ w, m' 70 j = nI w ∧ w < 256 ∧ ∀ i, i < 8 → w.testBit i = bs.getD (8 * j + i) false) → Q (some (.inl (nI sz))) m') →
    zR κ (d + 1) Y_Mo_pack 97 [some (.inr 68), some (.inl (nI k)), none] [] mem Q := by
  intro r
  induction r with
  | zero =>
    intro k mem hk h e hw hQ
    have hks : k = sz := by omega
    subst hks
    refine w_Mo_pack_97 ⟨fun _ => ?_, fun q => absurd (by rw [e]; exact nI_le (Nat.le_refl _) (by omega)) q⟩
    rw [e]
    exact hQ mem (fun _ _ => rfl) hw
  | succ r ih =>
    intro k mem hk h e hw hQ
    refine w_Mo_pack_97 ⟨fun q => absurd q (by rw [e]; exact nI_ge (by omega) (by omega)), fun _ => ⟨vp_in_nI (by omega) (by decide), ?_⟩⟩
    rw [nI_clamp (by omega)]
    refine s_Mo_pack114 (bs := bs) (k := k) (by omega) (by omega) 8 0 _ 0 (by omega) ⟨by rw [zms_ne (by decide)]; exact h.1, fun j hj => by rw [zms_ne (by decide)]; exact h.2 j hj⟩ zms_ss (by decide) (fun i hi => absurd hi (Nat.not_lt_zero i)) (fun m' g1 g2 g3 g4 => ?_)
    refine ih (k + 1) m' (by omega) g1 (by rw [g2 68 (by decide), zms_ne (by decide)]; exact e) (fun j hj => ?_) (fun m'' f1 f2 => hQ m'' (fun q hq => ?_) f2)
    · by_cases hjk : j = k
      · subst hjk; exact g4
      · rw [g3 j hjk, zms_nk hjk]; exact hw j (by omega)
    · rw [f1 q hq, g2 q hq, zms_ne hq]
theorem zbyte_ext {a b : Nat} (ha : a < 256) (hb : b < 256) (h : ∀ i, i < 8 → a.testBit i = b.testBit i) : a = b := by
  apply Nat.eq_of_testBit_eq
  intro i
  rcases Nat.lt_or_ge i 8 with hi | hi
  · exact h i hi
  · rw [Nat.testBit_lt_two_pow (Nat.lt_of_lt_of_le ha (show 2 ^ 8 ≤ 2 ^ i from Nat.pow_le_pow_right (by decide) hi)), Nat.testBit_lt_two_pow (Nat.lt_of_lt_of_le hb (show 2 ^ 8 ≤ 2 ^ i from Nat.pow_le_pow_right (by decide) hi))]
/-- the same bits, the same bytes -/
theorem zsame_bytes {m m' : zM} {bs : List Bool} {sz : Nat} (h : zWB m bs) (hs : sz ≤ 200) (hb : 8 * sz ≤ bs.length) (hw : ∀ j, j < sz → ∃ w, m' 70 j = nI w ∧ w < 256 ∧ ∀ i, i < 8 → w.testBit i = bs.getD (8 * j + i) false) : ∀ j, j < sz → m 4 j = m' 70 j := by
  intro j hj
  obtain ⟨w, e, hw1, hw2⟩ := hw j hj
  obtain ⟨b, hb1, eb⟩ := h.2.2.1 j (by omega)
  rw [e, eb]
  congr 1
  refine zbyte_ext hb1 hw1 (fun i hi => ?_)
  have h4 := h.2.2.2 (8 * j + i) (by omega) (by omega)
  unfold zbit at h4
  rw [show (8 * j + i) / 8 = j by omega, show (8 * j + i) % 8 = i by omega, eb, nI_clamp (by omega)] at h4
  rw [h4, hw2 i hi]
set_option maxHeartbeats 1000000 in
theorem op_pack_empty {mem : zM} {sz : Nat} (hI : zI0 mem 0 sz) : zR κ (d + 5) Y_Rp_pack 0 [some (.inr 0), none] [] mem (fun r m1 => ∃ y1 : Int32, r = some (.inl y1) ∧ zR κ (d + 5) Y_Mo_pack 0 [some (.inr 68), none, none] [] m1 (fun r m2 => ∃ y2 : Int32, r = some (.inl y2) ∧ y1 = y2 ∧ zInv m2)) := by
  obtain ⟨hn, hs, e1, e2, e3, e4, hT, hB, hB2, hC, hK⟩ := hI
  refine w_Rp_pack_0 (w_BitStream_startWriting_0 ⟨rfl, w_Packer_start_0 (w_Counts_reset_0 is_Counts_7 ⟨rfl, s_Ring_reset is_Ring_8 (fun m2 a1 a2 => ⟨rfl, rfl, ?_⟩)⟩)⟩)
  have fr2 : ∀ q, q ≠ 3 → q ≠ 7 → q ≠ 9 → m2 q = mem q := fun q h1 h2 h3 => by rw [a1 q h3, zms_ne h2, zms_ne h2, zms_ne h2, zms_ne h2, zms_ne h1]
  have z7 : ∀ k, k < 4 → m2 7 k = 0 := by
    intro k hk
    rw [a1 7 (by decide)]
    rcases (show k = 0 ∨ k = 1 ∨ k = 2 ∨ k = 3 by omega) with rfl | rfl | rfl | rfl
    · rw [zms_nk (by decide), zms_nk (by decide), zms_nk (by decide), zms_ss]
    · rw [zms_nk (by decide), zms_nk (by decide), zms_ss]
    · rw [zms_nk (by decide), zms_ss]
    · rw [zms_ss]
  have c0 : m2 1 1 = 0 := by rw [fr2 1 (by decide) (by decide) (by decide), e1]; rfl
  have W0 : zWB m2 [] := ⟨by rw [a1 3 (by decide), zms_ne (by decide), zms_ne (by decide), zms_ne (by decide), zms_ne (by decide), zms_ss]; rfl, by decide, fun k hk => by rw [fr2 4 (by decide) (by decide) (by decide)]; exact hB2 k hk, fun j hj => absurd hj (Nat.not_lt_zero j)⟩
  refine ⟨fun q => absurd c0 q, fun _ => ?_⟩
  refine s_give (x := 1) (n := 1) (by decide) (by decide) W0 (fun m3 g1 g2 => ⟨rfl, ?_⟩)
  refine s_give (x := 1) (n := 1) (by decide) (by decide) g1 (fun m4 g3 g4 => ⟨rfl, ?_⟩)
  have g5 := g2.tr g4
  refine w_Rp_pack_44 ⟨fun _ => ?_, fun q => absurd (by rw [g5.1 1 (by decide) (by decide), c0]; decide) q⟩
  refine s_finish g3 (by decide) (fun m5 k1 k2 k3 => ⟨rfl, ?_⟩)
  have k2' : m5 3 1 = nI 1 := k2
  refine s_Counts_become is_Counts_5 is_Counts_7 (by decide) (fun m6 p1 p2 => ⟨rfl, _, rfl, ?_⟩)
  have fr6 : ∀ q, q ≠ 3 → q ≠ 4 → q ≠ 5 → q ≠ 7 → q ≠ 9 → m6 q = mem q := fun q h1 h2 h3 h4 h5 => by rw [p1 q h3, k3 q h1 h2, g5.1 q h1 h2, fr2 q h1 h4 h5]
  have c5 : ∀ k, k < 4 → m6 5 k = 0 := fun k hk => by rw [p2 k hk, k3 7 (by decide) (by decide), g5.1 7 (by decide) (by decide), z7 k hk]
  have c31 : m6 3 1 = nI 1 := by rw [p1 3 (by decide)]; exact k2'
  have W6 : zWB m6 (zpad ([] ++ zbits 1 0 1 ++ zbits 1 0 1)) := ⟨by rw [p1 3 (by decide)]; exact k1.1, k1.2.1, fun k hk => by rw [p1 4 (by decide)]; exact k1.2.2.1 k hk, fun j h1 h2 => by have := k1.2.2.2 j h1 h2; unfold zbit at this ⊢; rw [p1 4 (by decide)]; exact this⟩
  -- the reference
  have r0 : m6 68 = mem 68 := fr6 68 (by decide) (by decide) (by decide) (by decide) (by decide)
  refine w_Mo_pack_0 (s_Mo_counts (fun m7 d1 d2 d3 d4 => ⟨rfl, fun q => absurd (by rw [d3 0 (by decide), r0, e2]; rfl) q, fun _ => ?_⟩))
  have M0 : zWM (zms m7 68 8 0) [] := ⟨by rw [zms_ss]; rfl, fun j hj => absurd hj (Nat.not_lt_zero j)⟩
  refine s_number (x := 3) (n := 2) (by decide) (by decide) M0 (fun m8 f1 f2 => ⟨rfl, ?_⟩)
  have l8 : m8 68 0 = 0 := by rw [f2.2 0 (by decide), zms_nk (by decide), d3 0 (by decide), r0, e2]; rfl
  refine w_Mo_pack_24 ⟨fun _ => ?_, fun q => absurd (by rw [l8]; decide) q⟩
  refine s_Mo_padW 6 m8 ([] ++ zbits 3 0 2) (by decide) (by decide) f1 (fun m9 v1 v2 => ?_)
  have s9 : (zms m9 68 2 (nI ((([] ++ zbits 3 0 2).length + 6) / 8))) 68 2 = nI 1 := by rw [zms_ss]; rfl
  have M9 : zWM (zms m9 68 2 (nI ((([] ++ zbits 3 0 2).length + 6) / 8))) ([] ++ zbits 3 0 2 ++ List.replicate 6 false) := ⟨by rw [zms_nk (by decide)]; exact v1.1, fun j hj => by rw [zms_ne (by decide)]; exact v1.2 j hj⟩
  refine s_Mo_pack97 (bs := [] ++ zbits 3 0 2 ++ List.replicate 6 false) (sz := 1) (by decide) (by decide) 1 0 _ (by decide) M9 s9 (fun j hj => absurd hj (Nat.not_lt_zero j)) (fun m10 u1 u2 => ⟨_, rfl, c31, 0, 1, ?_⟩)
  have ebs : zpad ([] ++ zbits 1 0 1 ++ zbits 1 0 1) = [] ++ zbits 3 0 2 ++ List.replicate 6 false := by decide
  have fr10 : ∀ q, q ≠ 68 → q ≠ 70 → q ≠ 71 → q ≠ 75 → m10 q = m6 q := fun q h1 h2 h3 h4 => by rw [u1 q h2, zms_ne h1, v2.1 q h1 h3, f2.1 q h1 h3, zms_ne h1, d1 q h1 h4]
  have r10 : ∀ k, k ≠ 2 → k ≠ 8 → m10 68 k = m7 68 k := fun k h1 h2 => by rw [u1 68 (by decide), zms_nk h1, v2.2 k h2, f2.2 k h2, zms_nk h2]
  refine ⟨by decide, by decide, by rw [fr10 1 (by decide) (by decide) (by decide) (by decide), fr6 1 (by decide) (by decide) (by decide) (by decide) (by decide)]; exact e1, by rw [r10 0 (by decide) (by decide), d3 0 (by decide), r0]; exact e2, by rw [fr10 3 (by decide) (by decide) (by decide) (by decide)]; exact c31, by rw [u1 68 (by decide)]; exact s9, fun i hi => absurd hi (Nat.not_lt_zero i), ?_, ?_, ?_, ?_⟩
  · rw [ebs] at W6
    have := zsame_bytes (m' := m10) W6 (sz := 1) (by decide) (by decide) u2
    intro i hi
    rw [fr10 4 (by decide) (by decide) (by decide) (by decide)]
    exact this i hi
  · intro i hi
    rw [fr10 4 (by decide) (by decide) (by decide) (by decide)]
    exact W6.2.2.1 i hi
  · intro k hk
    rw [fr10 5 (by decide) (by decide) (by decide) (by decide), c5 k hk, r10 (4 + k) (by omega) (by omega), d4 (4 + k) (by omega) (by omega)]
  · refine zKeep_of (fun q h1 h2 => ?_) hK
    rw [fr10 q (by omega) (by omega) (by omega) (by omega), fr6 q (by omega) (by omega) (by omega) (by omega) (by omega)]
end zPackEnd
