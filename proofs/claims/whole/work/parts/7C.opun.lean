/-! unpack on both sides, for every state -/
section zOpUn
variable {κ : zK} {d : Nat} {Q : Option zV → zM → Prop}
theorem zUb_0 {m : zM} {f : Nat → Int32} {sz : Nat} (hs : zS f sz 0 false m) (h42 : m 42 1 = 0) (h44 : ∀ k, k < 4 → m 44 k = 0) (h46 : ∀ k, k < 4 → m 46 k = nI (2 ^ k)) (hC : zC4 m) : zUb f sz (0, [], (1, 2, 4, 8), 0, 0, 0) 0 m :=
  ⟨⟨hs, ⟨by decide, h42, fun i hi => absurd hi (Nat.not_lt_zero i), fun x hx => absurd hx List.not_mem_nil⟩, ⟨h46 0 (by decide), h46 1 (by decide), h46 2 (by decide), h46 3 (by decide)⟩, ⟨by decide, by decide, by decide, by decide⟩, h44 1 (by decide), h44 2 (by decide), h44 3 (by decide)⟩, h44 0 (by decide), hC⟩
/-- what the class's unpack leaves alone -/
def zFx (m m' : zM) : Prop := ∀ q, q ≠ 1 → q ≠ 2 → q ≠ 3 → q ≠ 5 → q ≠ 42 → q ≠ 43 → q ≠ 44 → q ≠ 46 → (q < 48 ∨ 67 < q) → m' q = m q
set_option maxHeartbeats 1000000 in
theorem s_Rp_unpack {m : zM} {n sz : Nat} (hI : zI0 m n sz)
    (h1 : ∀ m' u a, zunp (m 4) (8 * sz) = some (u, a) → u.2.1.length ≤ 96 → (∀ x ∈ u.2.1, x < 256) → m' 1 1 = nI u.2.1.length → (∀ i, i < u.2.1.length → m' 2 i = nI (u.2.1.getD i 0)) → m' 5 0 = nI a → m' 5 1 = nI u.2.2.2.1 → m' 5 2 = nI u.2.2.2.2.1 → m' 5 3 = nI u.2.2.2.2.2 → m' 3 1 = nI sz → m' 4 = m 4 → zC4 m' → zFx m m' → Q (some (.inl (nI u.2.1.length))) m')
    (h2 : ∀ m', zunp (m 4) (8 * sz) = none → m' 3 1 = nI sz → m' 4 = m 4 → zC4 m' → zFw m m' → Q (some (.inl (-1))) m') :
    zR κ (d + 9) Y_Rp_unpack 0 [some (.inr 0)] [] m Q := by
  obtain ⟨hn, hs, e1, e2, e3, e4, hT, hB, hB2, hC, hK⟩ := hI
  refine w_Rp_unpack_0 (w_Unpacker_readAll_0 (w_Text_makeEmpty_0 is_Text_42 ⟨rfl, w_Counts_reset_0 is_Counts_44 ⟨rfl, s_Ring_reset is_Ring_45 (fun m3 a1 a2 => ⟨rfl, w_BitStream_startReading_0 ⟨rfl, ?_⟩⟩)⟩⟩))
  have c4 : zC4 m := ⟨hK (48, 256, 8) (by decide), hK (53, 256, 8) (by decide), hK (58, 32, 5) (by decide), hK (63, 14, 4) (by decide)⟩
  have b0 : ∀ q, q ≠ 42 → q ≠ 44 → q ≠ 46 → m3 q = m q := fun q q1 q2 q3 => by rw [a1 q q3, zms_ne q2, zms_ne q2, zms_ne q2, zms_ne q2, zms_ne q1]
  have b42 : m3 42 1 = 0 := by rw [a1 42 (by decide), zms_ne (by decide), zms_ne (by decide), zms_ne (by decide), zms_ne (by decide), zms_ss]
  have b44 : ∀ k, k < 4 → m3 44 k = 0 := by
    intro k hk
    rw [a1 44 (by decide)]
    rcases (show k = 0 ∨ k = 1 ∨ k = 2 ∨ k = 3 by omega) with rfl | rfl | rfl | rfl
    · rw [zms_nk (by decide), zms_nk (by decide), zms_nk (by decide), zms_ss]
    · rw [zms_nk (by decide), zms_nk (by decide), zms_ss]
    · rw [zms_nk (by decide), zms_ss]
    · rw [zms_ss]
  have f3 : zFu m (zms (zms m3 3 2 0) 3 3 0) := fun q q1 q2 q3 q4 q5 => by rw [zms_ne q1, zms_ne q1]; exact b0 q q2 q4 q5
  have hs0 : zS (m 4) sz 0 false (zms (zms m3 3 2 0) 3 3 0) := ⟨hs, Nat.zero_le _, by rw [zms_ne (by decide), zms_ne (by decide)]; exact b0 4 (by decide) (by decide) (by decide), hB2, by rw [zms_nk (by decide), zms_nk (by decide), b0 3 (by decide) (by decide) (by decide)]; exact e3, by rw [zms_nk (by decide), zms_ss]; rfl, by rw [zms_ss]; rfl⟩
  have hU : zUb (m 4) sz (0, [], (1, 2, 4, 8), 0, 0, 0) 0 (zms (zms m3 3 2 0) 3 3 0) := zUb_0 hs0 (by rw [zms_ne (by decide), zms_ne (by decide)]; exact b42) (fun k hk => by rw [zms_ne (by decide), zms_ne (by decide)]; exact b44 k hk) (fun k hk => by rw [zms_ne (by decide), zms_ne (by decide)]; exact a2 k hk) (zC4_u f3 c4)
  refine s_readAll_loop (m0 := m) (tot := zall (m 4) (8 * sz) 97 (0, [], (1, 2, 4, 8), 0, 0, 0) 0) (fun m5 u a g1 g2 g3 => ⟨1, rfl, fun _ => ?_, fun z => absurd z (by decide)⟩) (fun m5 P5 ov5 g1 g2 g3 g4 => ⟨0, rfl, fun z => absurd rfl z, fun _ => ?_⟩) 97 0 _ (0, [], (1, 2, 4, 8), 0, 0, 0) 0 rfl hU f3.w rfl
  · obtain ⟨P', ⟨k1, k2, k3, k4, k5, k6, k7⟩, k8, k9⟩ := g2
    refine w_Text_become_0 is_Text_1 is_Text_42 ⟨rfl, s_Counts_become is_Counts_5 is_Counts_44 (by decide) (fun m6 w1 w2 => ⟨rfl, ?_⟩)⟩
    have k2 : zDr u.2.1 m5 := k2
    have j1 : m6 1 1 = nI u.2.1.length := by
      rw [w1 1 (by decide), zms_ss, zmr_ne (by decide)]
      exact k2.2.1
    have j5 : ∀ k, k < 4 → m6 5 k = m5 44 k := fun k hk => by rw [w2 k hk, zms_ne (by decide), zmr_ne (by decide)]
    have j0 : ∀ q, q ≠ 1 → q ≠ 2 → q ≠ 5 → m6 q = m5 q := fun q q1 q2 q3 => by rw [w1 q q3, zms_ne q1, zmr_ne q2]
    rw [j1]
    refine h1 m6 u a (zunp_fin.trans g1) k2.1 k2.2.2.2 j1 (fun i hi => ?_) (by rw [j5 0 (by decide)]; exact k8) (by rw [j5 1 (by decide)]; exact k5) (by rw [j5 2 (by decide)]; exact k6) (by rw [j5 3 (by decide)]; exact k7) (by rw [j0 3 (by decide) (by decide) (by decide)]; exact k1.2.2.2.2.1) (by rw [j0 4 (by decide) (by decide) (by decide)]; exact k1.2.2.1) ?_ (fun q q1 q2 q3 q4 q5 q6 q7 q8 q9 => by rw [j0 q q1 q2 q4]; exact g3 q q3 q5 q6 q7 q8 q9)
    · rw [w1 2 (by decide), zms_ne (by decide)]
      show zmr m5 2 (va_cpy (m5 43) (m5 2) 0 0 96) 2 i = _
      rw [zmr_ss]
      have h96 := k2.1
      show (if 0 ≤ i ∧ i < 0 + 96 then m5 43 (0 + (i - 0)) else m5 2 i) = _
      rw [if_pos ⟨Nat.zero_le _, by omega⟩, show 0 + (i - 0) = i by omega]
      exact k2.2.2.1 i hi
    · obtain ⟨x1, x2, x3, x4⟩ := k9
      exact ⟨zCode_of (j0 _ (by decide) (by decide) (by decide)) (j0 _ (by decide) (by decide) (by decide)) (j0 _ (by decide) (by decide) (by decide)) x1, zCode_of (j0 _ (by decide) (by decide) (by decide)) (j0 _ (by decide) (by decide) (by decide)) (j0 _ (by decide) (by decide) (by decide)) x2, zCode_of (j0 _ (by decide) (by decide) (by decide)) (j0 _ (by decide) (by decide) (by decide)) (j0 _ (by decide) (by decide) (by decide)) x3, zCode_of (j0 _ (by decide) (by decide) (by decide)) (j0 _ (by decide) (by decide) (by decide)) (j0 _ (by decide) (by decide) (by decide)) x4⟩
  · exact h2 m5 (zunp_fin.trans g1) g2.2.2.2.2.1 g2.2.2.1 g3 g4
theorem zblk_len {f : Nat → Int32} {N : Nat} {u u' : zU} {a a' : Nat} (h : zblk f N u a = some (false, u', a')) : u.2.1.length < u'.2.1.length ∧ u'.2.1.length ≤ 96 := by
  unfold zblk at h
  split at h
  · cases h
  split at h
  · split at h
    · cases h
    · split at h
      · cases h
      · have := (zbody_len h).2.2
        cases this
  · exact ⟨(zbody_len h).1, (zbody_len h).2.1⟩
/-- the text is taken over -/
theorem m_123 {m : zM} {o : List Nat} {x1 x2 x3 x4 x5 : Int32} (hQ : ∀ m', (∀ q, q ≠ 69 → m' q = m q) → (∀ i, i < o.length → m' 69 i = nI (o.getD i 0)) → Q (some (.inl (m 68 0))) m') : ∀ (r k : Nat) (m1 : zM), k + r = o.length → zMd o m1 → (∀ q, q ≠ 69 → m1 q = m q) → (∀ i, i < k → m1 69 i = nI (o.getD i 0)) → zR κ (d + 1) Y_Mo_unpack 123 [some (.inr 68), some (.inl x1), some (.inl x2), some (.inl x3), some (.inl x4), some (.inl x5), some (.inl (nI k))] [] m1 Q := by
  intro r
  induction r with
  | zero =>
    intro k m1 hk ho hF hT
    have h96 := ho.1
    have ek : k = o.length := by omega
    subst ek
    refine w_Mo_unpack_123 ⟨fun _ => ?_, fun z => ?_⟩
    · rw [hF 68 (by decide)]
      exact hQ m1 hF hT
    · rw [ho.2.1] at z
      exact absurd (Int32.le_refl _) z
  | succ r ih =>
    intro k m1 hk ho hF hT
    have h96 := ho.1
    refine w_Mo_unpack_123 ⟨fun z => ?_, fun _ => ⟨vp_in_nI (by omega) (by decide), vp_in_nI (by omega) (by decide), ?_⟩⟩
    · rw [ho.2.1] at z
      exact absurd z (nI_ge (by omega) (by omega))
    rw [nI_clamp (by omega), nI_1, ho.2.2.1 k (by omega)]
    refine ih (k + 1) _ (by omega) (zMd_of (by rw [zms_ne (by decide)]) (zms_ne (by decide)) ho) (fun q hq => by rw [zms_ne hq]; exact hF q hq) (fun i hi => ?_)
    by_cases hik : i = k
    · subst hik
      exact zms_ss
    · rw [zms_nk hik]
      exact hT i (by omega)
def zGx (m m' : zM) : Prop := ∀ q, q ≠ 68 → q ≠ 69 → q ≠ 73 → q ≠ 74 → q ≠ 75 → q ≠ 84 → m' q = m q
set_option maxHeartbeats 1000000 in
theorem s_Mo_unpack {m : zM} {f : Nat → Int32} {sz : Nat} (hs : sz ≤ 200) (h2' : m 68 2 = nI sz) (h70 : ∀ i, i < sz → m 70 i = f i) (hB : ∀ i, i < 200 → zB (f i))
    (h1 : ∀ m' u a, zunp f (8 * sz) = some (u, a) → m' 68 0 = nI u.2.1.length → (∀ i, i < u.2.1.length → m' 69 i = nI (u.2.1.getD i 0)) → m' 68 4 = nI a → m' 68 5 = nI u.2.2.2.1 → m' 68 6 = nI u.2.2.2.2.1 → m' 68 7 = nI u.2.2.2.2.2 → m' 68 2 = nI sz → zGx m m' → Q (some (.inl (nI u.2.1.length))) m')
    (h2 : ∀ m', zunp f (8 * sz) = none → (∀ i, i < 8 → m' 68 i = m 68 i) → m' 69 = m 69 → zGx m m' → Q (some (.inl (-1))) m') :
    zR κ (d + 8) Y_Mo_unpack 0 [some (.inr 68), none, none, none, none, none, none] [] m Q := by
  refine w_Mo_unpack_0 (s_Mo_counts (fun m1 d1 d2 d3 d4 => ⟨rfl, ?_⟩))
  generalize hm2 : zms (zms (zms m1 68 8 0) 68 29 0) 68 28 0 = m2
  have c0 : ∀ q, q ≠ 68 → q ≠ 75 → m2 q = m q := fun q q1 q2 => by rw [← hm2, zms_ne q1, zms_ne q1, zms_ne q1]; exact d1 q q1 q2
  have c8 : m2 68 8 = nI 0 := by rw [← hm2, zms_nk (by decide), zms_nk (by decide), zms_ss]; rfl
  have c29 : m2 68 29 = nI 0 := by rw [← hm2, zms_nk (by decide), zms_ss]; rfl
  have c28 : m2 68 28 = nI false.toNat := by rw [← hm2, zms_ss]; rfl
  have ck : ∀ k, k ≠ 8 → k ≠ 28 → k ≠ 29 → m2 68 k = m1 68 k := fun k k1 k2 k3 => by rw [← hm2, zms_nk k2, zms_nk k3, zms_nk k1]
  have c75 : ∀ k, k < 4 → m2 75 k = nI (2 ^ k) := fun k hk => by rw [← hm2, zms_ne (by decide), zms_ne (by decide), zms_ne (by decide)]; exact d2 k hk
  have c2 : m2 68 2 = nI sz := by rw [ck 2 (by decide) (by decide) (by decide), d3 2 (by decide)]; exact h2'
  have hz4 : ∀ k, 4 ≤ k → k < 8 → m2 68 k = nI 0 := fun k k1 k2 => by rw [ck k (by omega) (by omega) (by omega), d4 k k1 k2]; rfl
  have hG2 : zGx m m2 := fun q q1 _ _ _ q5 _ => c0 q q1 q5
  have hb0 : zMb f sz (0, [], (1, 2, 4, 8), 0, 0, 0) 0 m2 := ⟨⟨⟨hs, Nat.zero_le _, fun i hi => by rw [c0 70 (by decide) (by decide)]; exact h70 i hi, hB, c2, c8, c28⟩, ⟨by decide, c29, fun i hi => absurd hi (Nat.not_lt_zero i), fun x hx => absurd hx List.not_mem_nil⟩, ⟨c75 0 (by decide), c75 1 (by decide), c75 2 (by decide), c75 3 (by decide)⟩, ⟨by decide, by decide, by decide, by decide⟩, hz4 5 (by decide) (by decide), hz4 6 (by decide) (by decide), hz4 7 (by decide) (by decide)⟩, hz4 4 (by decide) (by decide)⟩
  -- it failed
  have k89 : ∀ (m5 : zM) (x5 : Int32), zunp f (8 * sz) = none → zGw m2 m5 → zR κ (d + 7 + 1) Y_Mo_unpack 89 [some (.inr 68), some (.inl (m 68 4)), some (.inl (m 68 5)), some (.inl (m 68 6)), some (.inl (m 68 7)), some (.inl x5), none] [] m5 Q := by
    intro m5 x5 g1 g2
    refine w_Mo_unpack_89 (h2 _ g1 (fun i hi => ?_) ?_ (fun q q1 q2 q3 q4 q5 q6 => ?_))
    · rcases (show i = 0 ∨ i = 1 ∨ i = 2 ∨ i = 3 ∨ i = 4 ∨ i = 5 ∨ i = 6 ∨ i = 7 by omega) with rfl | rfl | rfl | rfl | rfl | rfl | rfl | rfl
      · rw [zms_nk (by decide), zms_nk (by decide), zms_nk (by decide), zms_nk (by decide), g2.2 0 (by decide) (by decide) (by decide) (by decide) (by decide) (by decide) (by decide), ck 0 (by decide) (by decide) (by decide)]
        exact d3 0 (by decide)
      · rw [zms_nk (by decide), zms_nk (by decide), zms_nk (by decide), zms_nk (by decide), g2.2 1 (by decide) (by decide) (by decide) (by decide) (by decide) (by decide) (by decide), ck 1 (by decide) (by decide) (by decide)]
        exact d3 1 (by decide)
      · rw [zms_nk (by decide), zms_nk (by decide), zms_nk (by decide), zms_nk (by decide), g2.2 2 (by decide) (by decide) (by decide) (by decide) (by decide) (by decide) (by decide), ck 2 (by decide) (by decide) (by decide)]
        exact d3 2 (by decide)
      · rw [zms_nk (by decide), zms_nk (by decide), zms_nk (by decide), zms_nk (by decide), g2.2 3 (by decide) (by decide) (by decide) (by decide) (by decide) (by decide) (by decide), ck 3 (by decide) (by decide) (by decide)]
        exact d3 3 (by decide)
      · rw [zms_nk (by decide), zms_nk (by decide), zms_nk (by decide), zms_ss]
      · rw [zms_nk (by decide), zms_nk (by decide), zms_ss]
      · rw [zms_nk (by decide), zms_ss]
      · rw [zms_ss]
    · rw [zms_ne (by decide), zms_ne (by decide), zms_ne (by decide), zms_ne (by decide), g2.1 69 (by decide) (by decide) (by decide) (by decide) (by decide)]
      exact c0 69 (by decide) (by decide)
    · rw [zms_ne q1, zms_ne q1, zms_ne q1, zms_ne q1, g2.1 q q1 q3 q4 q5 q6]
      exact c0 q q1 q5
  -- behind the blocks
  have k64 : ∀ (m4 : zM) (P : Nat) (br : Bool) (x5 : Int32) (u : zU) (a : Nat), zSM f sz P br m4 → zGw m2 m4 → (br = false → P = u.1 ∧ zMb f sz u a m4 ∧ zall f (8 * sz) 97 (0, [], (1, 2, 4, 8), 0, 0, 0) 0 = some (u, a)) → (br = true → zall f (8 * sz) 97 (0, [], (1, 2, 4, 8), 0, 0, 0) 0 = none) →
      zR κ (d + 7 + 1) Y_Mo_unpack 64 [some (.inr 68), some (.inl (m 68 4)), some (.inl (m 68 5)), some (.inl (m 68 6)), some (.inl (m 68 7)), some (.inl x5), none] [] m4 Q := by
    intro m4 P br x5 u a g1 g2 g3 g4
    refine w_Mo_unpack_64 (r_pad g1 (fun m5 P5 br5 e1 e2 e3 e4 e5 => ⟨rfl, fun z => ?_, fun z => ?_⟩))
    · have hbr5 : br5 = true := by
        cases br5 with
        | true => rfl
        | false => exact absurd (zbr_f e1) z
      refine k89 m5 x5 ?_ (g2.tr (zFk_tk e2 e3).w)
      cases hbr : br with
      | true => exact zunp_1 (g4 hbr)
      | false =>
        obtain ⟨k1, k2, k3⟩ := g3 hbr
        rcases e5 hbr5 with q | q
        · rw [hbr] at q
          cases q
        · exact zunp_2 k3 (by rw [← k1]; exact q)
    · have hbr5 : br5 = false := by
        cases br5 with
        | false => rfl
        | true => exact absurd z (zbr_t e1)
      subst hbr5
      obtain ⟨hbr, hpd⟩ := e4 rfl
      obtain ⟨k1, ⟨k2, k2'⟩, k3⟩ := g3 hbr
      have h200 := e1.1
      have hP5 := e1.2.1
      have e8 : (8 : Int32) * m5 68 2 = nI (8 * sz) := by
        rw [e1.2.2.2.2.1]
        exact (Int32.ofNat_mul 8 sz).symm
      have hz : zunp f (8 * sz) = if P5 = 8 * sz then some (u, a) else none := zunp_3 k3 (by rw [← k1]; exact hpd)
      have hF5 : zGw m2 m5 := g2.tr (zFk_tk e2 e3).w
      rw [e8, e1.2.2.2.2.2.1]
      refine ⟨fun q => ?_, fun q => k89 m5 x5 ?_ hF5⟩
      · rw [if_pos ((nI_eq (by omega) (by omega)).mp q)] at hz
        have hst : zMst f sz (P5, u.2) m5 := zMst_k k2 e1 (zFk_tk e2 e3)
        have hD : zMd u.2.1 m5 := hst.2.1
        have e29 : m5 68 29 = nI u.2.1.length := hD.2.1
        rw [e29]
        refine m_123 (m := zms m5 68 0 (nI u.2.1.length)) (o := u.2.1) (fun m6 w1 w2 => ?_) u.2.1.length 0 _ (by omega) (zMd_of (zms_nk (by decide)) (zms_ne (by decide)) hD) (fun _ _ => rfl) (fun i hi => absurd hi (Nat.not_lt_zero i))
        rw [zms_ss]
        have w68 : ∀ i, i ≠ 0 → m6 68 i = m5 68 i := fun i hi => by rw [w1 68 (by decide), zms_nk hi]
        refine h1 m6 u a hz (by rw [w1 68 (by decide), zms_ss]) w2 (by rw [w68 4 (by decide), e3 4 (by decide) (by decide)]; exact k2') (by rw [w68 5 (by decide)]; exact hst.2.2.2.2.1) (by rw [w68 6 (by decide)]; exact hst.2.2.2.2.2.1) (by rw [w68 7 (by decide)]; exact hst.2.2.2.2.2.2) (by rw [w68 2 (by decide)]; exact e1.2.2.2.2.1) (fun q q1 q2 q3 q4 q5 q6 => ?_)
        rw [w1 q q2, zms_ne q1, hF5.1 q q1 q3 q4 q5 q6]
        exact c0 q q1 q5
      · rw [hz, if_neg (fun w => q (by rw [w]))]
  -- the blocks
  have key : ∀ (t : Nat) (m4 : zM) (u : zU) (a : Nat), 96 < u.2.1.length + t → zMb f sz u a m4 → zGw m2 m4 → zall f (8 * sz) t u a = zall f (8 * sz) 97 (0, [], (1, 2, 4, 8), 0, 0, 0) 0 →
      zR κ (d + 7 + 1) Y_Mo_unpack 43 [some (.inr 68), some (.inl (m 68 4)), some (.inl (m 68 5)), some (.inl (m 68 6)), some (.inl (m 68 7)), some (.inl 0), none] [] m4 Q := by
    intro t
    induction t with
    | zero =>
      intro m4 u a ht hu _ _
      have := hu.1.2.1.1
      omega
    | succ t ih =>
      intro m4 u a ht hu hF hz
      refine w_Mo_unpack_43 ⟨fun z => absurd rfl z, fun _ => ⟨fun z => absurd (zbr_f hu.1.1) z, fun _ => ?_⟩⟩
      unfold zall at hz
      refine m_readBlock hu (fun m5 last u5 a5 g1 g2 g3 => ⟨_, rfl, ?_⟩) (fun m5 y P5 g1 g2 g3 => ⟨y, rfl, ?_⟩)
      · rw [g1] at hz
        have hz : (if last = true then some (u5, a5) else zall f (8 * sz) t u5 a5) = zall f (8 * sz) 97 (0, [], (1, 2, 4, 8), 0, 0, 0) 0 := hz
        cases last with
        | true =>
          rw [if_pos rfl] at hz
          refine w_Mo_unpack_43 ⟨fun _ => k64 m5 u5.1 false _ u5 a5 g2.1.1 (hF.tr g3) (fun _ => ⟨rfl, g2, hz.symm⟩) (fun z => by cases z), fun z => absurd z (by decide)⟩
        | false =>
          rw [if_neg (by decide)] at hz
          have hlen := zblk_len g1
          exact ih m5 u5 a5 (by omega) g2 (hF.tr g3) hz
      · rw [g1] at hz
        have hend : zR κ (d + 7 + 1) Y_Mo_unpack 64 [some (.inr 68), some (.inl (m 68 4)), some (.inl (m 68 5)), some (.inl (m 68 6)), some (.inl (m 68 7)), some (.inl y), none] [] m5 Q := k64 m5 P5 true y u a g2 (hF.tr g3) (fun z => by cases z) (fun _ => hz.symm)
        exact w_Mo_unpack_43 ⟨fun _ => hend, fun _ => ⟨fun _ => hend, fun z => absurd z (zbr_t g2)⟩⟩
  exact key 97 m2 (0, [], (1, 2, 4, 8), 0, 0, 0) 0 (by decide) hb0 zGw.rf rfl
set_option maxHeartbeats 1000000 in
theorem op_unpack {mem : zM} (hI : zInv mem) : zR κ (d + 9) Y_Rp_unpack 0 [some (.inr 0)] [] mem (fun r m1 => ∃ y1 : Int32, r = some (.inl y1) ∧ zR κ (d + 9) Y_Mo_unpack 0 [some (.inr 68), none, none, none, none, none, none] [] m1 (fun r m2 => ∃ y2 : Int32, r = some (.inl y2) ∧ y1 = y2 ∧ zInv m2)) := by
  obtain ⟨n, sz, hI⟩ := hI
  have hI' := hI
  obtain ⟨hn, hs, e1, e2, e3, e4, hT, hB, hB2, hC, hK⟩ := hI'
  -- the packer's codes, and the unpacker's
  have hcodes : ∀ m' : zM, zC4 m' → (∀ q, 11 ≤ q → q ≤ 30 → m' q = mem q) → zKeep m' := by
    intro m' x h t ht
    have ht' := ht
    simp only [zCodes, List.mem_cons, List.not_mem_nil, or_false] at ht'
    rcases ht' with rfl | rfl | rfl | rfl | rfl | rfl | rfl | rfl
    · exact zCode_of (h _ (by decide) (by decide)) (h _ (by decide) (by decide)) (h _ (by decide) (by decide)) (hK _ ht)
    · exact zCode_of (h _ (by decide) (by decide)) (h _ (by decide) (by decide)) (h _ (by decide) (by decide)) (hK _ ht)
    · exact zCode_of (h _ (by decide) (by decide)) (h _ (by decide) (by decide)) (h _ (by decide) (by decide)) (hK _ ht)
    · exact zCode_of (h _ (by decide) (by decide)) (h _ (by decide) (by decide)) (h _ (by decide) (by decide)) (hK _ ht)
    · exact x.1
    · exact x.2.1
    · exact x.2.2.1
    · exact x.2.2.2
  have c4_of : ∀ {m m' : zM}, (∀ q, 48 ≤ q → q ≤ 67 → m' q = m q) → zC4 m → zC4 m' := fun h hk => ⟨zCode_of (h _ (by decide) (by decide)) (h _ (by decide) (by decide)) (h _ (by decide) (by decide)) hk.1, zCode_of (h _ (by decide) (by decide)) (h _ (by decide) (by decide)) (h _ (by decide) (by decide)) hk.2.1, zCode_of (h _ (by decide) (by decide)) (h _ (by decide) (by decide)) (h _ (by decide) (by decide)) hk.2.2.1, zCode_of (h _ (by decide) (by decide)) (h _ (by decide) (by decide)) (h _ (by decide) (by decide)) hk.2.2.2⟩
  refine s_Rp_unpack hI (fun m1 u a g1 g2 g3 g4 g5 g6 g7 g8 g9 g10 g11 g12 g13 => ⟨_, rfl, ?_⟩) (fun m1 g1 g2 g3 g4 g5 => ⟨_, rfl, ?_⟩)
  · have x68 : m1 68 = mem 68 := g13 68 (by decide) (by decide) (by decide) (by decide) (by decide) (by decide) (by decide) (by decide) (by decide)
    have x70 : m1 70 = mem 70 := g13 70 (by decide) (by decide) (by decide) (by decide) (by decide) (by decide) (by decide) (by decide) (by decide)
    refine s_Mo_unpack (f := mem 4) hs (by rw [x68]; exact e4) (fun i hi => by rw [x70]; exact (hB i hi).symm) hB2 (fun m2 u' a' k1 k2 k3 k4 k5 k6 k7 k8 k9 => ?_) (fun m2 k1 => ?_)
    · rw [g1] at k1
      cases k1
      refine ⟨_, rfl, rfl, u.2.1.length, sz, g2, hs, ?_, k2, ?_, k8, fun i hi => ⟨?_, ?_⟩, fun i hi => ?_, fun i hi => ?_, fun k hk => ?_, ?_⟩
      · rw [k9 1 (by decide) (by decide) (by decide) (by decide) (by decide) (by decide)]; exact g4
      · rw [k9 3 (by decide) (by decide) (by decide) (by decide) (by decide) (by decide)]; exact g10
      · rw [k9 2 (by decide) (by decide) (by decide) (by decide) (by decide) (by decide), g5 i hi, k3 i hi]
      · rw [k9 2 (by decide) (by decide) (by decide) (by decide) (by decide) (by decide), g5 i hi]
        exact ⟨_, g3 _ (zget_mem hi), rfl⟩
      · rw [k9 4 (by decide) (by decide) (by decide) (by decide) (by decide) (by decide), g11, k9 70 (by decide) (by decide) (by decide) (by decide) (by decide) (by decide), x70]
        exact hB i hi
      · rw [k9 4 (by decide) (by decide) (by decide) (by decide) (by decide) (by decide), g11]
        exact hB2 i hi
      · rw [k9 5 (by decide) (by decide) (by decide) (by decide) (by decide) (by decide)]
        rcases (show k = 0 ∨ k = 1 ∨ k = 2 ∨ k = 3 by omega) with rfl | rfl | rfl | rfl
        · rw [g6]; exact k4.symm
        · rw [g7]; exact k5.symm
        · rw [g8]; exact k6.symm
        · rw [g9]; exact k7.symm
      · refine hcodes m2 (c4_of (fun q q1 q2 => k9 q (by omega) (by omega) (by omega) (by omega) (by omega) (by omega)) g12) (fun q q1 q2 => ?_)
        rw [k9 q (by omega) (by omega) (by omega) (by omega) (by omega) (by omega)]
        exact g13 q (by omega) (by omega) (by omega) (by omega) (by omega) (by omega) (by omega) (by omega) (by omega)
    · rw [g1] at k1
      cases k1
  · have x68 : m1 68 = mem 68 := g5 68 (by decide) (by decide) (by decide) (by decide) (by decide) (by decide)
    have x70 : m1 70 = mem 70 := g5 70 (by decide) (by decide) (by decide) (by decide) (by decide) (by decide)
    refine s_Mo_unpack (f := mem 4) hs (by rw [x68]; exact e4) (fun i hi => by rw [x70]; exact (hB i hi).symm) hB2 (fun m2 u' a' k1 => ?_) (fun m2 k1 k2 k3 k4 => ?_)
    · rw [g1] at k1
      cases k1
    · have y : ∀ q, q ≠ 3 → q ≠ 42 → q ≠ 43 → q ≠ 44 → q ≠ 46 → (q < 48 ∨ 67 < q) → q ≠ 68 → q ≠ 69 → q ≠ 73 → q ≠ 74 → q ≠ 75 → q ≠ 84 → m2 q = mem q := fun q q1 q2 q3 q4 q5 q6 r1 r2 r3 r4 r5 r6 => by rw [k4 q r1 r2 r3 r4 r5 r6]; exact g5 q q1 q2 q3 q4 q5 q6
      refine ⟨_, rfl, rfl, n, sz, hn, hs, ?_, ?_, ?_, ?_, fun i hi => ?_, fun i hi => ?_, fun i hi => ?_, fun k hk => ?_, ?_⟩
      · rw [y 1 (by decide) (by decide) (by decide) (by decide) (by decide) (by decide) (by decide) (by decide) (by decide) (by decide) (by decide) (by decide)]; exact e1
      · rw [k2 0 (by decide), x68]; exact e2
      · rw [k4 3 (by decide) (by decide) (by decide) (by decide) (by decide) (by decide)]; exact g2
      · rw [k2 2 (by decide), x68]; exact e4
      · rw [y 2 (by decide) (by decide) (by decide) (by decide) (by decide) (by decide) (by decide) (by decide) (by decide) (by decide) (by decide) (by decide), k3, g5 69 (by decide) (by decide) (by decide) (by decide) (by decide) (by decide)]
        exact hT i hi
      · rw [k4 4 (by decide) (by decide) (by decide) (by decide) (by decide) (by decide), g3, k4 70 (by decide) (by decide) (by decide) (by decide) (by decide) (by decide), x70]
        exact hB i hi
      · rw [k4 4 (by decide) (by decide) (by decide) (by decide) (by decide) (by decide), g3]
        exact hB2 i hi
      · rw [y 5 (by decide) (by decide) (by decide) (by decide) (by decide) (by decide) (by decide) (by decide) (by decide) (by decide) (by decide) (by decide), k2 (4 + k) (by omega), x68]
        exact hC k hk
      · refine hcodes m2 (c4_of (fun q q1 q2 => k4 q (by omega) (by omega) (by omega) (by omega) (by omega) (by omega)) g4) (fun q q1 q2 => y q (by omega) (by omega) (by omega) (by omega) (by omega) (by omega) (by omega) (by omega) (by omega) (by omega) (by omega) (by omega))
end zOpUn
