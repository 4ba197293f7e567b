/-! pack, for every text -/
section zOpack
variable {κ : zK} {d : Nat} {Q : Option zV → zM → Prop} {T : List Nat}
/-- blocks up to the text's end -/
def zpk (T : List Nat) : Nat → Nat → List Bool × zRg × (Nat → Nat) → List Bool × zRg × (Nat → Nat)
  | 0, _, u => u
  | t + 1, p, u => if T.length ≤ p then u else zpk T t (p + 48) (zbkB T (zpar T (min T.length (p + 48)) 48 p p u.2.1 []).1 p (min T.length (p + 48)) (zway T (zpar T (min T.length (p + 48)) 48 p p u.2.1 []).1 p (min T.length (p + 48)) u.1) u.1, if zway T (zpar T (min T.length (p + 48)) 48 p p u.2.1 []).1 p (min T.length (p + 48)) u.1 = 0 then u.2.1 else (zpar T (min T.length (p + 48)) 48 p p u.2.1 []).2, fun k => u.2.2 k + zdk (zpar T (min T.length (p + 48)) 48 p p u.2.1 []).1 (zway T (zpar T (min T.length (p + 48)) 48 p p u.2.1 []).1 p (min T.length (p + 48)) u.1) k)
theorem zpk_step {p : Nat} {u : List Bool × zRg × (Nat → Nat)} (h96 : T.length ≤ 96) (h : p < T.length) : (zbkB T (zpar T (min T.length (p + 48)) 48 p p u.2.1 []).1 p (min T.length (p + 48)) (zway T (zpar T (min T.length (p + 48)) 48 p p u.2.1 []).1 p (min T.length (p + 48)) u.1) u.1).length ≤ u.1.length + 400 := by
  have hok := zpar_ok (T := T) (p := p) (e := min T.length (p + 48)) (by omega) (by omega) 48 p p u.2.1 [] (by omega) (Nat.le_refl _) (by omega) (Nat.le_refl _) (by rw [List.length_nil]; omega) rfl (fun c hc => absurd hc List.not_mem_nil)
  exact Nat.le_trans zway_in.2 ((zbkB_len (T := T) (way := 0) (bs := u.1) hok (by omega)).2 rfl)
theorem zrp_if {c : Prop} [Decidable c] {a b : zRg} (ha : zRp a) (hb : zRp b) : zRp (if c then a else b) := by
  split
  · exact ha
  · exact hb
theorem s_packLoop {m0 : zM} {fin : List Bool × zRg × (Nat → Nat)}
    (hQ : ∀ m', zWB m' (zpad fin.1) → fin.1.length ≤ 1592 → m' 3 1 = nI ((zpad fin.1).length / 8) → (∀ k, k < 4 → m' 5 k = nI (fin.2.2 k)) → zC4p m' → (∀ q, q ≠ 3 → q ≠ 4 → q ≠ 5 → q ≠ 7 → q ≠ 9 → (q < 11 ∨ 40 < q) → m' q = m0 q) → Q (some (.inl (nI ((zpad fin.1).length / 8)))) m') :
    ∀ (t p : Nat) (u : List Bool × zRg × (Nat → Nat)) (m : zM), T.length ≤ p + 48 * t → u.1.length + 400 * t ≤ 1592 → p ≤ 144 → zTx T m → zRc 9 u.2.1 m → zRp u.2.1 → zC4p m → zWB m u.1 → (∀ k, k < 4 → m 7 k = nI (u.2.2 k)) → zFbk m0 m → zpk T t p u = fin → zR κ (d + 9) Y_Rp_pack 44 [some (.inr 0), some (.inl (nI p))] [] m Q := by
  have kend : ∀ (p : Nat) (u : List Bool × zRg × (Nat → Nat)) (m : zM), T.length ≤ p → p ≤ 144 → u.1.length ≤ 1592 → zTx T m → zC4p m → zWB m u.1 → (∀ k, k < 4 → m 7 k = nI (u.2.2 k)) → zFbk m0 m → u = fin → zR κ (d + 8 + 1) Y_Rp_pack 44 [some (.inr 0), some (.inl (nI p))] [] m Q := by
    intro p u m hp hp2 hl hT hC hw h7 hF he
    subst he
    refine w_Rp_pack_44 ⟨fun _ => s_finish hw hl (fun m1 a1 a2 a3 => ⟨rfl, s_Counts_become is_Counts_5 is_Counts_7 (by decide) (fun m2 b1 b2 => ⟨rfl, ?_⟩)⟩), fun g => ?_⟩
    · have hh : ∀ q, q ≠ 3 → q ≠ 4 → q ≠ 5 → m2 q = m q := fun q q1 q2 q3 => by rw [b1 q q3, a3 q q1 q2]
      have e31 : m2 3 1 = nI ((zpad u.1).length / 8) := by rw [b1 3 (by decide)]; exact a2
      rw [e31]
      refine hQ m2 ?_ hl e31 (fun k hk => by rw [b2 k hk, a3 7 (by decide) (by decide)]; exact h7 k hk) ⟨zCode_of (hh _ (by decide) (by decide) (by decide)) (hh _ (by decide) (by decide) (by decide)) (hh _ (by decide) (by decide) (by decide)) hC.1, zCode_of (hh _ (by decide) (by decide) (by decide)) (hh _ (by decide) (by decide) (by decide)) (hh _ (by decide) (by decide) (by decide)) hC.2.1, zCode_of (hh _ (by decide) (by decide) (by decide)) (hh _ (by decide) (by decide) (by decide)) (hh _ (by decide) (by decide) (by decide)) hC.2.2.1, zCode_of (hh _ (by decide) (by decide) (by decide)) (hh _ (by decide) (by decide) (by decide)) (hh _ (by decide) (by decide) (by decide)) hC.2.2.2⟩ (fun q q1 q2 q3 q4 q5 q6 => by rw [hh q q1 q2 q3]; exact hF.1 q q1 q2 q4 q5 q6)
      unfold zWB zbit
      rw [b1 3 (by decide), b1 4 (by decide)]
      exact a1
    · rw [hT.2.1] at g
      exact absurd (nI_le hp (by omega)) g
  intro t
  induction t with
  | zero =>
    intro p u m hp hl hp2 hT hr hrp hC hw h7 hF hz
    exact kend p u m (by omega) hp2 (by omega) hT hC hw h7 hF hz
  | succ t ih =>
    intro p u m hp hl hp2 hT hr hrp hC hw h7 hF hz
    have h96 := hT.1
    rw [zpk] at hz
    by_cases hle : T.length ≤ p
    · rw [if_pos hle] at hz
      exact kend p u m hle hp2 (by omega) hT hC hw h7 hF hz
    rw [if_neg hle] at hz
    have hst := zpk_step (u := u) h96 (show p < T.length by omega)
    refine w_Rp_pack_44 ⟨fun g => ?_, fun _ => ?_⟩
    · rw [hT.2.1] at g
      exact absurd g (nI_ge (by omega) (by omega))
    refine s_block rfl hT (by omega) hr hrp hC (by omega) hw (fun m1 a1 a2 a3 a4 a5 a6 => ⟨rfl, ?_⟩)
    rw [show nI p + 48 = nI (p + 48) from nI_add p 48]
    refine ih (p + 48) _ m1 (by omega) ?_ (by omega) (zTx_of (a6.1 1 (by decide) (by decide) (by decide) (by decide) (by decide)) (a6.1 2 (by decide) (by decide) (by decide) (by decide) (by decide)) hT) a2 (zrp_if hrp a3) a4 a1 (fun k hk => ?_) (hF.tr a6) hz
    · show (zbkB T (zpar T (min T.length (p + 48)) 48 p p u.2.1 []).1 p (min T.length (p + 48)) (zway T (zpar T (min T.length (p + 48)) 48 p p u.2.1 []).1 p (min T.length (p + 48)) u.1) u.1).length + 400 * t ≤ 1592
      omega
    · rw [a5 k hk, h7 k hk, nI_add]
theorem m_packLoop {m0 : zM} {fin : List Bool × zRg × (Nat → Nat)}
    (hQ : ∀ (m' : zM) (x : Int32), zWM m' fin.1 → fin.1.length ≤ 1592 → (∀ k, k < 4 → m' 68 (4 + k) = nI (fin.2.2 k)) → zFmb m0 m' → zR κ (d + 8) Y_Mo_pack 65 [some (.inr 68), some (.inl x), none] [] m' Q) :
    ∀ (t p : Nat) (u : List Bool × zRg × (Nat → Nat)) (m : zM), T.length ≤ p + 48 * t → u.1.length + 400 * t ≤ 1200 → p ≤ 144 → zTm T m → zRc 75 u.2.1 m → zRp u.2.1 → zWM m u.1 → (∀ k, k < 4 → m 68 (4 + k) = nI (u.2.2 k)) → zFmb m0 m → zpk T t p u = fin → zR κ (d + 8) Y_Mo_pack 24 [some (.inr 68), some (.inl (nI p)), none] [] m Q := by
  have kend : ∀ (p : Nat) (u : List Bool × zRg × (Nat → Nat)) (m : zM), T.length ≤ p → p ≤ 144 → u.1.length ≤ 1592 → zTm T m → zWM m u.1 → (∀ k, k < 4 → m 68 (4 + k) = nI (u.2.2 k)) → zFmb m0 m → u = fin → zR κ (d + 7 + 1) Y_Mo_pack 24 [some (.inr 68), some (.inl (nI p)), none] [] m Q := by
    intro p u m hp hp2 hl hT hw h7 hF he
    subst he
    refine w_Mo_pack_24 ⟨fun _ => hQ m _ hw hl h7 hF, fun g => ?_⟩
    rw [hT.2.1] at g
    exact absurd (nI_le hp (by omega)) g
  intro t
  induction t with
  | zero =>
    intro p u m hp hl hp2 hT hr hrp hw h7 hF hz
    exact kend p u m (by omega) hp2 (by omega) hT hw h7 hF hz
  | succ t ih =>
    intro p u m hp hl hp2 hT hr hrp hw h7 hF hz
    have h96 := hT.1
    rw [zpk] at hz
    by_cases hle : T.length ≤ p
    · rw [if_pos hle] at hz
      exact kend p u m hle hp2 (by omega) hT hw h7 hF hz
    rw [if_neg hle] at hz
    have hst := zpk_step (u := u) h96 (show p < T.length by omega)
    have e48 : nI p + 48 = nI (p + 48) := nI_add p 48
    have go : zR κ (d + 7) Y_Mo_choose 0 [some (.inr 68), some (.inl (nI p)), some (.inl (nI (min T.length (p + 48)))), none, none, none, none] [] m (fun r m1 => r = none ∧ zR κ (d + 7 + 1) Y_Mo_pack 24 [some (.inr 68), some (.inl (nI (p + 48))), none] [] m1 Q) := by
      refine m_choose rfl hT (by omega) (by omega) (by omega) hr hrp (by omega) hw (fun m1 a1 a2 a3 a4 a5 => ⟨rfl, ?_⟩)
      refine ih (p + 48) _ m1 (by omega) ?_ (by omega) (zTm_of (a5.2 0 (by decide)) (a5.1 69 (by decide) (by decide)) hT) a2 (zrp_if hrp a3) a1 (fun k hk => ?_) (hF.tr a5) hz
      · show (zbkB T (zpar T (min T.length (p + 48)) 48 p p u.2.1 []).1 p (min T.length (p + 48)) (zway T (zpar T (min T.length (p + 48)) 48 p p u.2.1 []).1 p (min T.length (p + 48)) u.1) u.1).length + 400 * t ≤ 1200
        omega
      · rw [a4 k hk, h7 k hk, nI_add]
    refine w_Mo_pack_24 ⟨fun g => ?_, fun _ => ?_⟩
    · rw [hT.2.1] at g
      exact absurd g (nI_ge (by omega) (by omega))
    rw [hT.2.1, e48]
    refine ⟨fun g => ?_, fun g => ?_⟩
    · have g := (nI_leI (by omega) (by omega)).mp g
      rw [show min T.length (p + 48) = p + 48 by omega] at go
      exact go
    · have g : T.length < p + 48 := by
        rcases Nat.lt_or_ge T.length (p + 48) with z | z
        · exact z
        · exact absurd (nI_le z (by omega)) g
      rw [show min T.length (p + 48) = T.length by omega] at go
      exact go
set_option maxHeartbeats 1000000 in
theorem op_pack {mem : zM} (hI : zInv mem) : zR κ (d + 9) Y_Rp_pack 0 [some (.inr 0), none] [] mem (fun r m1 => ∃ y1 : Int32, r = some (.inl y1) ∧ zR κ (d + 9) Y_Mo_pack 0 [some (.inr 68), none, none] [] m1 (fun r m2 => ∃ y2 : Int32, r = some (.inl y2) ∧ y1 = y2 ∧ zInv m2)) := by
  obtain ⟨n, sz, hI⟩ := hI
  rcases Nat.eq_zero_or_pos n with hz | hpos
  · subst hz
    exact op_pack_empty (d := d + 4) hI
  obtain ⟨hn, hs, e1, e2, e3, e4, hT, hB, hB2, hC, hK⟩ := hI
  -- the text
  obtain ⟨T, hTl, hT2, hT256⟩ : ∃ T : List Nat, T.length = n ∧ (∀ i, i < n → mem 2 i = nI (T.getD i 0)) ∧ ∀ x ∈ T, x < 256 := by
    refine ⟨(List.range n).map (fun i => (mem 2 i).toNatClampNeg), by rw [List.length_map, List.length_range], fun i hi => ?_, fun x hx => ?_⟩
    · obtain ⟨b, hb, eb⟩ := (hT i hi).2
      rw [List.getD_eq_getElem?_getD, List.getElem?_map, List.getElem?_range hi]
      show mem 2 i = nI (mem 2 i).toNatClampNeg
      rw [eb, nI_clamp (by omega)]
    · obtain ⟨i, hi, rfl⟩ := List.mem_map.mp hx
      obtain ⟨b, hb, eb⟩ := (hT i (List.mem_range.mp hi)).2
      show (mem 2 i).toNatClampNeg < 256
      rw [eb, nI_clamp (by omega)]
      exact hb
  have hTx : zTx T mem := ⟨by omega, by rw [hTl]; exact e1, fun i hi => hT2 i (by omega), hT256⟩
  have hTm : zTm T mem := ⟨by omega, by rw [hTl]; exact e2, fun i hi => by rw [← (hT i (by omega)).1]; exact hT2 i (by omega), hT256⟩
  have hC0 : zC4p mem := ⟨hK (11, 256, 8) (by decide), hK (16, 256, 8) (by decide), hK (21, 32, 5) (by decide), hK (26, 14, 4) (by decide)⟩
  have hrp0 : zRp (1, 2, 4, 8) := ⟨⟨by decide, by decide⟩, ⟨by decide, by decide⟩, ⟨by decide, by decide⟩, ⟨by decide, by decide⟩⟩
  refine w_Rp_pack_0 (w_BitStream_startWriting_0 ⟨rfl, w_Packer_start_0 (w_Counts_reset_0 is_Counts_7 ⟨rfl, s_Ring_reset is_Ring_8 (fun m2 a1 a2 => ⟨rfl, rfl, ?_⟩)⟩)⟩)
  have fr2 : ∀ q, q ≠ 3 → q ≠ 7 → q ≠ 9 → m2 q = mem q := fun q h1 h2 h3 => by rw [a1 q h3, zms_ne h2, zms_ne h2, zms_ne h2, zms_ne h2, zms_ne h1]
  have z7 : ∀ k, k < 4 → m2 7 k = 0 := by
    intro k hk
    rw [a1 7 (by decide)]
    rcases (show k = 0 ∨ k = 1 ∨ k = 2 ∨ k = 3 by omega) with rfl | rfl | rfl | rfl
    · rw [zms_nk (by decide), zms_nk (by decide), zms_nk (by decide), zms_ss]
    · rw [zms_nk (by decide), zms_nk (by decide), zms_ss]
    · rw [zms_nk (by decide), zms_ss]
    · rw [zms_ss]
  have W0 : zWB m2 [] := ⟨by rw [a1 3 (by decide), zms_ne (by decide), zms_ne (by decide), zms_ne (by decide), zms_ne (by decide), zms_ss]; rfl, by decide, fun k hk => by rw [fr2 4 (by decide) (by decide) (by decide)]; exact hB2 k hk, fun j hj => absurd hj (Nat.not_lt_zero j)⟩
  have hC2 : zC4p m2 := ⟨zCode_of (fr2 _ (by decide) (by decide) (by decide)) (fr2 _ (by decide) (by decide) (by decide)) (fr2 _ (by decide) (by decide) (by decide)) hC0.1, zCode_of (fr2 _ (by decide) (by decide) (by decide)) (fr2 _ (by decide) (by decide) (by decide)) (fr2 _ (by decide) (by decide) (by decide)) hC0.2.1, zCode_of (fr2 _ (by decide) (by decide) (by decide)) (fr2 _ (by decide) (by decide) (by decide)) (fr2 _ (by decide) (by decide) (by decide)) hC0.2.2.1, zCode_of (fr2 _ (by decide) (by decide) (by decide)) (fr2 _ (by decide) (by decide) (by decide)) (fr2 _ (by decide) (by decide) (by decide)) hC0.2.2.2⟩
  have hne : ¬ m2 1 1 = 0 := by
    rw [fr2 1 (by decide) (by decide) (by decide), e1]
    intro w
    have := (nI_eq (by omega) (by decide)).mp (show nI n = nI 0 from w)
    omega
  refine ⟨fun _ => ?_, fun q => absurd q hne⟩
  generalize hfin : zpk T 2 0 ([], (1, 2, 4, 8), fun _ => 0) = fin
  refine s_packLoop (m0 := m2) (fin := fin) (fun m6 W6 hl6 c31 c5 hC6 fr6' => ⟨_, rfl, ?_⟩) 2 0 ([], (1, 2, 4, 8), fun _ => 0) m2 (by omega) (by show 0 + 400 * 2 ≤ 1592; decide) (by decide) (zTx_of (fr2 1 (by decide) (by decide) (by decide)) (fr2 2 (by decide) (by decide) (by decide)) hTx) ⟨a2 0 (by decide), a2 1 (by decide), a2 2 (by decide), a2 3 (by decide)⟩ hrp0 hC2 W0 (fun k hk => z7 k hk) ⟨fun _ _ _ _ _ _ => rfl, fun _ _ => rfl⟩ hfin
  have fr6 : ∀ q, q ≠ 3 → q ≠ 4 → q ≠ 5 → q ≠ 7 → q ≠ 9 → (q < 11 ∨ 40 < q) → m6 q = mem q := fun q h1 h2 h3 h4 h5 h6 => by rw [fr6' q h1 h2 h3 h4 h5 h6, fr2 q h1 h4 h5]
  clear a1 a2 z7 W0 hC2 hne fr2 fr6'
  -- the reference
  have r0 : m6 68 = mem 68 := fr6 68 (by decide) (by decide) (by decide) (by decide) (by decide) (by decide)
  refine w_Mo_pack_0 (s_Mo_counts (fun m7 d1 d2 d3 d4 => ⟨rfl, fun _ => ?_, fun q => ?_⟩))
  rotate_left
  · rw [d3 0 (by decide), r0, e2] at q
    have := (nI_eq (by omega) (by decide)).mp (show nI n = nI 0 from q)
    omega
  have M0 : zWM (zms m7 68 8 0) [] := ⟨by rw [zms_ss]; rfl, fun j hj => absurd hj (Nat.not_lt_zero j)⟩
  have hTm7 : zTm T (zms m7 68 8 0) := zTm_of (by rw [zms_nk (by decide), d3 0 (by decide), r0]) (by rw [zms_ne (by decide), d1 69 (by decide) (by decide), fr6 69 (by decide) (by decide) (by decide) (by decide) (by decide) (by decide)]) hTm
  refine m_packLoop (d := d + 1) (m0 := zms m7 68 8 0) (fin := fin) (fun m8 x M8 hl8 c8 f8 => ?_) 2 0 ([], (1, 2, 4, 8), fun _ => 0) _ (by omega) (by show 0 + 400 * 2 ≤ 1200; decide) (by decide) hTm7 ⟨by rw [zms_ne (by decide)]; exact d2 0 (by decide), by rw [zms_ne (by decide)]; exact d2 1 (by decide), by rw [zms_ne (by decide)]; exact d2 2 (by decide), by rw [zms_ne (by decide)]; exact d2 3 (by decide)⟩ hrp0 M0 (fun k hk => by rw [zms_nk (by omega)]; exact d4 (4 + k) (by omega) (by omega)) ⟨fun _ _ _ => rfl, fun _ _ => rfl⟩ hfin
  have hpl := zpad_len fin.1
  have hplen : (zpad fin.1).length = fin.1.length + (8 - fin.1.length % 8) % 8 := by
    unfold zpad
    rw [List.length_append, List.length_replicate]
  refine s_Mo_padW ((8 - fin.1.length % 8) % 8) m8 fin.1 rfl (by omega) M8 (fun m9 v1 v2 => ?_)
  have v1 : zWM m9 (zpad fin.1) := v1
  rw [← hplen]
  have s9 : (zms m9 68 2 (nI ((zpad fin.1).length / 8))) 68 2 = nI ((zpad fin.1).length / 8) := zms_ss
  have M9 : zWM (zms m9 68 2 (nI ((zpad fin.1).length / 8))) (zpad fin.1) := ⟨by rw [zms_nk (by decide)]; exact v1.1, fun j hj => by rw [zms_ne (by decide)]; exact v1.2 j hj⟩
  refine s_Mo_pack97 (bs := zpad fin.1) (sz := (zpad fin.1).length / 8) (by omega) (by omega) ((zpad fin.1).length / 8) 0 _ (by omega) M9 s9 (fun j hj => absurd hj (Nat.not_lt_zero j)) (fun m10 u1 u2 => ⟨_, rfl, rfl, n, (zpad fin.1).length / 8, ?_⟩)
  have fr10 : ∀ q, q < 68 → m10 q = m6 q := fun q h1 => by rw [u1 q (by omega), zms_ne (by omega), v2.1 q (by omega) (by omega), f8.1 q (by omega) (by omega), zms_ne (by omega), d1 q (by omega) (by omega)]
  have fr69 : m10 69 = mem 69 := by rw [u1 69 (by decide), zms_ne (by decide), v2.1 69 (by decide) (by decide), f8.1 69 (by decide) (by decide), zms_ne (by decide), d1 69 (by decide) (by decide), fr6 69 (by decide) (by decide) (by decide) (by decide) (by decide) (by decide)]
  refine ⟨hn, by omega, ?_, ?_, ?_, ?_, fun i hi => ?_, fun i hi => ?_, fun i hi => ?_, fun k hk => ?_, ?_⟩
  · rw [fr10 1 (by decide), fr6 1 (by decide) (by decide) (by decide) (by decide) (by decide) (by decide)]
    exact e1
  · rw [u1 68 (by decide), zms_nk (by decide), v2.2 0 (by decide), f8.2 0 (by decide), zms_nk (by decide), d3 0 (by decide), r0]
    exact e2
  · rw [fr10 3 (by decide)]
    exact c31
  · rw [u1 68 (by decide)]
    exact s9
  · rw [fr10 2 (by decide), fr6 2 (by decide) (by decide) (by decide) (by decide) (by decide) (by decide), fr69]
    exact hT i hi
  · rw [fr10 4 (by decide)]
    exact zsame_bytes (m' := m10) W6 (sz := (zpad fin.1).length / 8) (by omega) (by omega) u2 i hi
  · rw [fr10 4 (by decide)]
    exact W6.2.2.1 i hi
  · rw [fr10 5 (by decide), c5 k hk, u1 68 (by decide), zms_nk (by omega), v2.2 (4 + k) (by omega), c8 k hk]
  · intro t ht
    have ht' := ht
    have hr : ∀ q, 41 ≤ q → q < 68 → m10 q = mem q := fun q h1 h2 => by rw [fr10 q h2, fr6 q (by omega) (by omega) (by omega) (by omega) (by omega) (by omega)]
    simp only [zCodes, List.mem_cons, List.not_mem_nil, or_false] at ht'
    rcases ht' with rfl | rfl | rfl | rfl | rfl | rfl | rfl | rfl
    · exact zCode_of (fr10 _ (by decide)) (fr10 _ (by decide)) (fr10 _ (by decide)) hC6.1
    · exact zCode_of (fr10 _ (by decide)) (fr10 _ (by decide)) (fr10 _ (by decide)) hC6.2.1
    · exact zCode_of (fr10 _ (by decide)) (fr10 _ (by decide)) (fr10 _ (by decide)) hC6.2.2.1
    · exact zCode_of (fr10 _ (by decide)) (fr10 _ (by decide)) (fr10 _ (by decide)) hC6.2.2.2
    · exact zCode_of (hr _ (by decide) (by decide)) (hr _ (by decide) (by decide)) (hr _ (by decide) (by decide)) (hK _ ht)
    · exact zCode_of (hr _ (by decide) (by decide)) (hr _ (by decide) (by decide)) (hr _ (by decide) (by decide)) (hK _ ht)
    · exact zCode_of (hr _ (by decide) (by decide)) (hr _ (by decide) (by decide)) (hr _ (by decide) (by decide)) (hK _ ht)
    · exact zCode_of (hr _ (by decide) (by decide)) (hr _ (by decide) (by decide)) (hr _ (by decide) (by decide)) (hK _ ht)
end zOpack
