/-! the reference's choice and tally -/
section zMchoose
variable {κ : zK} {d : Nat} {Q : Option zV → zM → Prop} {T : List Nat} {p e : Nat} {cs : List zCmd} {bs : List Bool} {r : zRg}
theorem zncp_cons {c : zCmd} : zncp (c :: cs) = (if c.2.2.2.2.2.2.1 ≠ 0 ∧ c.2.2.2.2.2.2.2 = 0 then 1 else 0) + zncp cs := rfl
theorem znwd_cons {c : zCmd} : znwd (c :: cs) = c.2.2.2.2.2.2.2 + znwd cs := rfl
theorem znsy_cons {c : zCmd} : znsy (c :: cs) = (1 + c.2.1 + (if c.2.2.2.2.1 = 0 then 0 else 1)) + znsy cs := rfl
theorem m_tally {m : zM} (hP : zPm cs m) (hok : ∀ c ∈ cs, zcok c) (h17 : cs.length ≤ 17)
    (hQ : ∀ m', (∀ q, q ≠ 68 → m' q = m q) → (∀ k, (k < 4 ∨ 7 < k) → m' 68 k = m 68 k) → m' 68 4 = m 68 4 + 1 → m' 68 5 = m 68 5 + nI (zncp cs) → m' 68 6 = m 68 6 + nI (znwd cs) → m' 68 7 = m 68 7 + nI (znsy cs) → Q none m') : zR κ d Y_Mo_tally 0 [some (.inr 68), none] [] m Q := by
  refine w_Mo_tally_0 ?_
  have key : ∀ (r k : Nat) (m1 : zM), k + r = cs.length → (∀ q, q ≠ 68 → m1 q = m q) → (∀ k, (k < 4 ∨ 7 < k) → m1 68 k = m 68 k) → m1 68 4 = m 68 4 + 1 → m1 68 5 + nI (zncp (cs.drop k)) = m 68 5 + nI (zncp cs) → m1 68 6 + nI (znwd (cs.drop k)) = m 68 6 + nI (znwd cs) → m1 68 7 + nI (znsy (cs.drop k)) = m 68 7 + nI (znsy cs) → zR κ d Y_Mo_tally 12 [some (.inr 68), some (.inl (nI k))] [] m1 Q := by
    intro r
    induction r with
    | zero =>
      intro k m1 hk hF hF2 h4 h5 h6 h7
      rw [List.drop_eq_nil_of_le (by omega)] at h5 h6 h7
      have e15 : m1 68 15 = nI cs.length := by rw [hF2 15 (by decide)]; exact hP.1
      refine w_Mo_tally_12 ⟨fun _ => hQ m1 hF hF2 h4 ?_ ?_ ?_, fun g => ?_⟩
      · rw [← h5, show nI (zncp []) = 0 from rfl, Int32.add_zero]
      · rw [← h6, show nI (znwd []) = 0 from rfl, Int32.add_zero]
      · rw [← h7, show nI (znsy []) = 0 from rfl, Int32.add_zero]
      · rw [e15] at g
        exact absurd (nI_le (by omega) (by omega)) g
    | succ r ih =>
      intro k m1 hk hF hF2 h4 h5 h6 h7
      have hkl : k < cs.length := by omega
      have e15 : m1 68 15 = nI cs.length := by rw [hF2 15 (by decide)]; exact hP.1
      have hcm := hP.2 k hkl
      have hcok : zcok (cs.getD k zcn0) := hok _ (by rw [zgd_get cs zcn0 hkl]; exact List.getElem_mem _)
      rw [zdrop_consC hkl] at h5 h6 h7
      generalize hc : cs.getD k zcn0 = c at *
      rw [zncp_cons] at h5
      rw [znwd_cons] at h6
      rw [znsy_cons] at h7
      obtain ⟨o1, o2, o3, o4, o5, o6, o7, o8, o9, o10⟩ := hcok
      obtain ⟨g77, g78, g79, g80, g81, g82, g83⟩ := hcm
      have e77 : m1 77 k = nI c.2.1 := by rw [hF 77 (by decide)]; exact g77
      have e79 : m1 79 k = nI (if c.2.2.2.2.2.2.1 = 0 then 0 else c.2.2.2.1) := by rw [hF 79 (by decide)]; exact g79
      have e80 : m1 80 k = zsI c.2.2.2.2.1 := by rw [hF 80 (by decide)]; exact g80
      have e83 : m1 83 k = nI c.2.2.2.2.2.2.2 := by rw [hF 83 (by decide)]; exact g83
      have hin : vp_in (nI k) 50 := vp_in_nI (by omega) (by decide)
      -- with the counts known
      have kn : ∀ (v5 v7 : Int32), v5 = m1 68 5 + nI (if c.2.2.2.2.2.2.1 ≠ 0 ∧ c.2.2.2.2.2.2.2 = 0 then 1 else 0) → v7 = m1 68 7 + nI (1 + c.2.1 + (if c.2.2.2.2.1 = 0 then 0 else 1)) → zR κ d Y_Mo_tally 12 [some (.inr 68), some (.inl (nI k + 1))] [] (zms (zms (zms m1 68 7 v7) 68 6 (m1 68 6 + nI c.2.2.2.2.2.2.2)) 68 5 v5) Q := by
        intro v5 v7 h1 h2
        rw [nI_1]
        refine ih (k + 1) _ (by omega) (fun q hq => by rw [zms_ne hq, zms_ne hq, zms_ne hq]; exact hF q hq) (fun k hk => by rw [zms_nk (by omega), zms_nk (by omega), zms_nk (by omega)]; exact hF2 k hk) (by rw [zms_nk (by decide), zms_nk (by decide), zms_nk (by decide)]; exact h4) ?_ ?_ ?_
        · rw [zms_ss, h1, Int32.add_assoc, nI_add]
          exact h5
        · rw [zms_nk (by decide), zms_ss, Int32.add_assoc, nI_add]
          exact h6
        · rw [zms_nk (by decide), zms_nk (by decide), zms_ss, h2, Int32.add_assoc, nI_add]
          exact h7
      have k48 : ∀ s2 : Int32, s2 = nI (if c.2.2.2.2.1 = 0 then 0 else 1) → zR κ d Y_Mo_tally 48 [some (.inr 68), some (.inl (nI k))] [.inl s2, .inl (m1 68 7 + 1 + nI c.2.1), .inr 68] m1 Q := by
        intro s2 hs2
        have h77 : m1 68 7 + 1 + nI c.2.1 + s2 = m1 68 7 + nI (1 + c.2.1 + (if c.2.2.2.2.1 = 0 then 0 else 1)) := by
          rw [hs2, ← nI_add, ← nI_add, Int32.add_assoc, Int32.add_assoc, Int32.add_assoc] <;> rfl
        refine w_Mo_tally_48 ?_
        rw [nI_clamp (by omega), e79, e83]
        refine ⟨hin, hin, fun g => kn _ _ ?_ h77, fun g => ⟨hin, fun g2 => kn _ _ ?_ h77, fun g2 => kn _ _ ?_ h77⟩⟩
        · have hy : c.2.2.2.2.2.2.1 = 0 := by
            by_cases hy : c.2.2.2.2.2.2.1 = 0
            · exact hy
            · rw [if_neg hy] at g
              have g := (nI_leI (by omega) (by decide)).mp (show nI c.2.2.2.1 ≤ nI 0 from g)
              exact absurd (by omega) (o10 hy)
          rw [if_neg (fun w => w.1 hy), show nI 0 = 0 from rfl, Int32.add_zero]
        · have g2 : ¬ c.2.2.2.2.2.2.2 = 0 := fun w => g2 (by rw [w]; rfl)
          rw [if_neg (fun w => g2 w.2), show nI 0 = 0 from rfl, Int32.add_zero]
        · have g2 : c.2.2.2.2.2.2.2 = 0 := (nI_eq (by omega) (by decide)).mp g2
          have hy : c.2.2.2.2.2.2.1 ≠ 0 := by
            intro hy
            rw [if_pos hy] at g
            exact g (Int32.le_refl _)
          rw [if_pos (show c.2.2.2.2.2.2.1 ≠ 0 ∧ c.2.2.2.2.2.2.2 = 0 from ⟨hy, g2⟩)] <;> rfl
      refine w_Mo_tally_12 ⟨fun g => ?_, fun _ => ?_⟩
      · rw [e15] at g
        exact absurd g (nI_ge hkl (by omega))
      rw [nI_clamp (by omega), e77, e80]
      refine ⟨hin, hin, fun g => k48 0 ?_, fun g => k48 1 ?_⟩
      · have hs : c.2.2.2.2.1 = 0 := by
          by_cases hs : c.2.2.2.2.1 = 0
          · exact hs
          · unfold zsI at g
            rw [if_neg hs] at g
            exact absurd g (nI_pos (by omega))
        rw [if_pos hs] <;> rfl
      · rw [if_neg (fun w => g (by rw [w]; decide))] <;> rfl
  exact key cs.length 0 _ (by omega) (fun q hq => zms_ne hq) (fun k hk => zms_nk (by omega)) zms_ss (by rw [List.drop_zero, zms_nk (by decide)]) (by rw [List.drop_zero, zms_nk (by decide)]) (by rw [List.drop_zero, zms_nk (by decide)])
/-- what a block leaves alone in the reference -/
def zFmb (m m' : zM) : Prop := (∀ q, q ≠ 68 → (q < 71 ∨ 83 < q) → m' q = m q) ∧ ∀ k, (k < 4 ∨ (8 < k ∧ k < 15)) → m' 68 k = m 68 k
theorem zFmb.tr {m m' m'' : zM} (h : zFmb m m') (h' : zFmb m' m'') : zFmb m m'' := ⟨fun q a b => (h'.1 q a b).trans (h.1 q a b), fun k a => (h'.2 k a).trans (h.2 k a)⟩
set_option maxHeartbeats 1000000 in
theorem m_choose {m : zM} {fin : List zCmd × zRg} (hfin : zpar T e 48 p p r [] = fin) (hT : zTm T m) (hpE : p < e) (hEl : e ≤ T.length) (hpe : e ≤ p + 48) (hr : zRc 75 r m) (hrp : zRp r) (hl : bs.length ≤ 1300) (hw : zWM m bs)
    (hQ : ∀ m', zWM m' (zbkB T fin.1 p e (zway T fin.1 p e bs) bs) → zRc 75 (if zway T fin.1 p e bs = 0 then r else fin.2) m' → zRp fin.2 → (∀ k, k < 4 → m' 68 (4 + k) = m 68 (4 + k) + nI (zdk fin.1 (zway T fin.1 p e bs) k)) → zFmb m m' → Q none m') :
    zR κ (d + 7) Y_Mo_choose 0 [some (.inr 68), some (.inl (nI p)), some (.inl (nI e)), none, none, none, none] [] m Q := by
  have h96 := hT.1
  have hok := zpar_ok (T := T) (p := p) (e := e) (by omega) (by omega) 48 p p r [] (by omega) (Nat.le_refl _) (by omega) (Nat.le_refl _) (by rw [List.length_nil]; omega) rfl (fun c hc => absurd hc List.not_mem_nil)
  rw [hfin] at hok
  have hb8 := fun w => (zbkB_len (T := T) (way := w) (bs := bs) hok hpe).1
  have hb0 := (zbkB_len (T := T) (way := 0) (bs := bs) hok hpe).2 rfl
  refine w_Mo_choose_0 ?_
  -- the ring is kept
  have kkeep : ∀ (n k : Nat) (m1 : zM), k + n = 4 → (∀ q, q ≠ 76 → m1 q = m q) → (∀ i, i < k → m1 76 i = m 75 i) → (∀ m2 : zM, (∀ q, q ≠ 76 → m2 q = m q) → (∀ i, i < 4 → m2 76 i = m 75 i) → zR κ (d + 6 + 1) Y_Mo_choose 2 [some (.inr 68), some (.inl (nI p)), some (.inl (nI e)), some (.inl (nI 4)), none, none, none] [] m2 Q) → zR κ (d + 6 + 1) Y_Mo_choose 2 [some (.inr 68), some (.inl (nI p)), some (.inl (nI e)), some (.inl (nI k)), none, none, none] [] m1 Q := by
    intro n
    induction n with
    | zero =>
      intro k m1 hk hF h76 hend
      have ek : k = 4 := by omega
      subst ek
      exact hend m1 hF h76
    | succ n ih =>
      intro k m1 hk hF h76 hend
      refine w_Mo_choose_2 ⟨fun g => absurd g (show ¬ nI 4 ≤ nI k from nI_ge (by omega) (by decide)), fun _ => ⟨vp_in_nI (by omega) (by decide), vp_in_nI (by omega) (by decide), ?_⟩⟩
      rw [nI_clamp (by omega), nI_1]
      refine ih (k + 1) _ (by omega) (fun q hq => by rw [zms_ne hq]; exact hF q hq) (fun i hi => ?_) hend
      by_cases h : i = k
      · subst h
        rw [zms_ss, hF 75 (by decide)]
      · rw [zms_nk h]
        exact h76 i (by omega)
  refine kkeep 4 0 m rfl (fun _ _ => rfl) (fun i hi => absurd hi (Nat.not_lt_zero i)) (fun m1 a1 a2 => ?_)
  refine w_Mo_choose_2 ⟨fun _ => w_Mo_parse_0 ?_, fun g => absurd (by decide) g⟩
  have hP1 : zPm [] (zms m1 68 15 0) := ⟨by rw [zms_ss]; rfl, fun k hk => absurd hk (Nat.not_lt_zero k)⟩
  have tr : ∀ {R : Option zV → zM → Prop} {mm : zM}, zR κ (d + 6) Y_Mo_parse 10 [some (.inr 68), some (.inl (nI p)), some (.inl (nI e)), some (.inl (nI (p - p))), some (.inl (nI p))] [] mm R → zR κ (d + 6) Y_Mo_parse 10 [some (.inr 68), some (.inl (nI p)), some (.inl (nI e)), some (.inl 0), some (.inl (nI p))] [] mm R := by
    intro R mm h
    rw [Nat.sub_self] at h
    exact h
  refine tr (m_parse_loop (m0 := m1) (fin := fin) hEl h96 hpe (fun m2 b1 b2 b3 b4 => ⟨rfl, ?_⟩) 48 p p r [] _ (by omega) (Nat.le_refl _) (by omega) (by rw [List.length_nil]; omega) (zTm_of (by rw [zms_nk (by decide), a1 68 (by decide)]) (by rw [zms_ne (by decide), a1 69 (by decide)]) hT) hP1 (zRc_of (by rw [zms_ne (by decide), a1 75 (by decide)]) hr) hrp ⟨fun q q1 _ _ => zms_ne q1, fun i h1 _ _ _ _ _ => zms_nk h1⟩ hfin)
  have f76 : zRc 76 r m2 := by
    obtain ⟨r1, r2, r3, r4⟩ := hr
    unfold zRc
    rw [b4.1 76 (by decide) (by decide) (by decide), a2 0 (by decide), a2 1 (by decide), a2 2 (by decide), a2 3 (by decide)]
    exact ⟨r1, r2, r3, r4⟩
  have g68 : ∀ i, i ≠ 15 → i ≠ 23 → i ≠ 24 → i ≠ 25 → i ≠ 26 → i ≠ 27 → m2 68 i = m 68 i := fun i h1 h2 h3 h4 h5 h6 => by rw [b4.2 i h1 h2 h3 h4 h5 h6, a1 68 (by decide)]
  have gq : ∀ q, q ≠ 68 → (q < 71 ∨ 83 < q) → m2 q = m q := fun q h1 h2 => by rw [b4.1 q h1 (by omega) (by omega), a1 q (by omega)]
  have hT2 : zTm T m2 := zTm_of (g68 0 (by decide) (by decide) (by decide) (by decide) (by decide) (by decide)) (gq 69 (by decide) (by decide)) hT
  have hw2 : zWM m2 bs := by
    unfold zWM
    rw [g68 8 (by decide) (by decide) (by decide) (by decide) (by decide) (by decide), b4.1 71 (by decide) (by decide) (by decide), a1 71 (by decide)]
    exact hw
  rw [hw2.1]
  clear hP1 a1 a2 b4
  -- one way
  have one : ∀ (w : Nat) (m3 : zM) (R : Option zV → zM → Prop), w ≤ 2 → zFy m2 m3 → (∃ l, zWM m3 (bs ++ l)) → (∀ m4, zFy m2 m4 → zWM m4 (zbkB T fin.1 p e w bs) → R none m4) → zR κ (d + 6) Y_Mo_block 0 [some (.inr 68), some (.inl (nI p)), some (.inl (nI e)), some (.inl (nI w)), none, none] [] (zms m3 68 8 (nI bs.length)) R := by
    intro w m3 R hw3 hF3 hl3 hR
    obtain ⟨l, hl3⟩ := hl3
    have hF4 : zFy m3 (zms m3 68 8 (nI bs.length)) := ⟨fun q q1 _ => zms_ne q1, fun k hk => zms_nk hk⟩
    exact m_block (d := d + 3) hw3 (zTm_y (hF3.tr hF4) hT2) (zPm_y (hF3.tr hF4) b1) hok hpE hEl hpe hl (zWM_back hl3) (fun m' g1 g2 => hR m' ((hF3.tr hF4).tr g2) g1)
  have hpre : ∀ (w : Nat) (m4 : zM), zWM m4 (zbkB T fin.1 p e w bs) → ∃ l, zWM m4 (bs ++ l) := by
    intro w m4 h
    obtain ⟨l, hl⟩ := zbkB_pre (T := T) (cs := fin.1) (p := p) (e := e) (bs := bs) (way := w)
    rw [hl] at h
    exact ⟨l, h⟩
  -- behind the choice
  have k126 : ∀ (w : Nat) (m3 : zM) (x3 x5 : Int32), w ≤ 2 → w = zway T fin.1 p e bs → zFy m2 m3 → zWM m3 (zbkB T fin.1 p e w bs) → zR κ (d + 6 + 1) Y_Mo_choose 126 [some (.inr 68), some (.inl (nI p)), some (.inl (nI e)), some (.inl x3), some (.inl (nI w)), some (.inl x5), some (.inl 0)] [] m3 Q := by
    intro w m3 x3 x5 hw3 hwe hF3 hw3'
    rw [← hwe] at hQ
    have loop : ∀ (n k : Nat) (m4 : zM), k + n = 4 → (∀ q, q ≠ 75 → m4 q = m3 q) → (∀ i, i < k → m4 75 i = if w = 0 then m3 76 i else m3 75 i) → (∀ i, k ≤ i → m4 75 i = m3 75 i) → zR κ (d + 6 + 1) Y_Mo_choose 126 [some (.inr 68), some (.inl (nI p)), some (.inl (nI e)), some (.inl x3), some (.inl (nI w)), some (.inl x5), some (.inl (nI k))] [] m4 Q := by
      intro n
      induction n with
      | zero =>
        intro k m4 hk hF4 h75 _
        have ek : k = 4 := by omega
        subst ek
        have hw4 : zWM m4 (zbkB T fin.1 p e w bs) := by
          unfold zWM
          rw [hF4 68 (by decide), hF4 71 (by decide)]
          exact hw3'
        have hr4 : zRc 75 (if w = 0 then r else fin.2) m4 := by
          unfold zRc
          rw [h75 0 (by decide), h75 1 (by decide), h75 2 (by decide), h75 3 (by decide)]
          by_cases h0 : w = 0
          · rw [if_pos h0, if_pos h0, if_pos h0, if_pos h0, if_pos h0, hF3.1 76 (by decide) (by decide)]
            exact f76
          · rw [if_neg h0, if_neg h0, if_neg h0, if_neg h0, if_neg h0, hF3.1 75 (by decide) (by decide)]
            exact b2
        have hf4 : ∀ k, k ≠ 8 → k < 15 → m4 68 k = m 68 k := fun k h1 h2 => by rw [hF4 68 (by decide), hF3.2 k h1, g68 k (by omega) (by omega) (by omega) (by omega) (by omega) (by omega)]
        have hq4 : ∀ q, q ≠ 68 → (q < 71 ∨ 83 < q) → m4 q = m q := fun q h1 h2 => by rw [hF4 q (by omega), hF3.1 q h1 (by omega), gq q h1 h2]
        refine w_Mo_choose_126 ⟨fun _ => ⟨fun g => ?_, fun g => ?_⟩, fun g => absurd (by decide) g⟩
        · have g := (nI_leI (by omega) (by decide)).mp (show nI w ≤ nI 0 from g)
          have g : w = 0 := by omega
          refine hQ m4 hw4 hr4 b3 (fun k hk => ?_) ⟨hq4, fun k hk => hf4 k (by omega) (by omega)⟩
          rw [hf4 (4 + k) (by omega) (by omega), g, show zdk fin.1 0 k = 0 from if_pos rfl, show nI 0 = 0 from rfl, Int32.add_zero]
        · have g : ¬ w = 0 := fun z => g (by rw [z]; exact Int32.le_refl _)
          have hP4 : zPm fin.1 m4 := by
            have := zPm_y hF3 b1
            unfold zPm zcmdM at this ⊢
            rw [hF4 68 (by decide), hF4 77 (by decide), hF4 78 (by decide), hF4 79 (by decide), hF4 80 (by decide), hF4 81 (by decide), hF4 82 (by decide), hF4 83 (by decide)]
            exact this
          refine m_tally hP4 hok.2.1 hok.2.2 (fun m5 v0 v1 v4 v5 v6 v7 => ⟨rfl, hQ m5 ?_ (zRc_of (v0 75 (by decide)) hr4) b3 (fun k hk => ?_) ⟨fun q h1 h2 => by rw [v0 q h1]; exact hq4 q h1 h2, fun k hk => by rw [v1 k (by omega)]; exact hf4 k (by omega) (by omega)⟩⟩)
          · unfold zWM
            rw [v1 8 (by decide), v0 71 (by decide)]
            exact hw4
          · unfold zdk
            rw [if_neg g]
            rcases (show k = 0 ∨ k = 1 ∨ k = 2 ∨ k = 3 by omega) with rfl | rfl | rfl | rfl
            · rw [hf4 4 (by decide) (by decide)] at v4
              exact v4
            · rw [hf4 5 (by decide) (by decide)] at v5
              exact v5
            · rw [hf4 6 (by decide) (by decide)] at v6
              exact v6
            · rw [hf4 7 (by decide) (by decide)] at v7
              exact v7
      | succ n ih =>
        intro k m4 hk hF4 h75 h75'
        have hin : vp_in (nI k) 4 := vp_in_nI (by omega) (by decide)
        refine w_Mo_choose_126 ⟨fun g => absurd g (show ¬ nI 4 ≤ nI k from nI_ge (by omega) (by decide)), fun _ => ⟨fun g => ⟨hin, hin, ?_⟩, fun g => ⟨hin, hin, ?_⟩⟩⟩
        · have g : ¬ w = 0 := fun z => g (by rw [z]; rfl)
          rw [nI_clamp (by omega), nI_1]
          refine ih (k + 1) _ (by omega) (fun q hq => by rw [zms_ne hq]; exact hF4 q hq) (fun i hi => ?_) (fun i hi => by rw [zms_nk (by omega)]; exact h75' i (by omega))
          by_cases h : i = k
          · subst h
            rw [zms_ss, if_neg g]
            exact h75' i (Nat.le_refl _)
          · rw [zms_nk h]
            exact h75 i (by omega)
        · have g : w = 0 := (nI_eq (by omega) (by decide)).mp g
          rw [nI_clamp (by omega), nI_1]
          refine ih (k + 1) _ (by omega) (fun q hq => by rw [zms_ne hq]; exact hF4 q hq) (fun i hi => ?_) (fun i hi => by rw [zms_nk (by omega)]; exact h75' i (by omega))
          by_cases h : i = k
          · subst h
            rw [zms_ss, if_pos g, hF4 76 (by decide)]
          · rw [zms_nk h]
            exact h75 i (by omega)
    exact loop 4 0 m3 rfl (fun _ _ => rfl) (fun i hi => absurd hi (Nat.not_lt_zero i)) (fun _ _ => rfl)
  have k3 : ∀ (w : Nat) (m3 : zM) (x5 : Int32), w = zway T fin.1 p e bs → zFy m2 m3 → (∃ l, zWM m3 (bs ++ l)) → zR κ (d + 6 + 1) Y_Mo_choose 47 [some (.inr 68), some (.inl (nI p)), some (.inl (nI e)), some (.inl (nI bs.length)), some (.inl (nI w)), some (.inl x5), some (.inl (nI 3))] [] m3 Q := by
    intro w m3 x5 hwe hF3 hl3
    have hw2' : w ≤ 2 := by rw [hwe]; exact zway_in.1
    exact w_Mo_choose_47 ⟨fun _ => one w m3 _ hw2' hF3 hl3 (fun m4 g1 g2 => ⟨rfl, k126 w m4 _ _ hw2' hwe g1 g2⟩), fun g => absurd (by decide) g⟩
  -- one way is tried
  have step : ∀ (b w l : Nat) (m3 : zM), b ≤ 2 → w ≤ 2 → l ≤ 4000 → zFy m2 m3 → (∃ l, zWM m3 (bs ++ l)) → (∀ (m4 : zM), zFy m2 m4 → (∃ l, zWM m4 (bs ++ l)) → zR κ (d + 6 + 1) Y_Mo_choose 47 [some (.inr 68), some (.inl (nI p)), some (.inl (nI e)), some (.inl (nI bs.length)), some (.inl (nI (if (zbkB T fin.1 p e b bs).length < l then b else w))), some (.inl (nI (if (zbkB T fin.1 p e b bs).length < l then (zbkB T fin.1 p e b bs).length else l))), some (.inl (nI (b + 1)))] [] m4 Q) → zR κ (d + 6 + 1) Y_Mo_choose 47 [some (.inr 68), some (.inl (nI p)), some (.inl (nI e)), some (.inl (nI bs.length)), some (.inl (nI w)), some (.inl (nI l)), some (.inl (nI b))] [] m3 Q := by
    intro b w l m3 hb hw3 hl3 hF3 hp3 hend
    have h8 := hb8 b
    refine w_Mo_choose_47 ⟨fun g => absurd g (show ¬ nI 3 ≤ nI b from nI_ge (by omega) (by decide)), fun _ => one b m3 _ hb hF3 hp3 (fun m4 g1 g2 => ⟨rfl, ?_⟩)⟩
    have hn := hend m4 g1 (hpre b m4 g2)
    rw [g2.1]
    by_cases hlt : (zbkB T fin.1 p e b bs).length < l
    · rw [if_pos hlt, if_pos hlt] at hn
      have hnle : ¬ nI l ≤ nI (zbkB T fin.1 p e b bs).length := nI_ge hlt (by omega)
      refine ⟨fun g => absurd g hnle, fun _ => w_Mo_choose_82 ?_⟩
      rw [g2.1, nI_1]
      exact ⟨fun g => absurd g hnle, fun _ => hn⟩
    · rw [if_neg hlt, if_neg hlt] at hn
      have hle : nI l ≤ nI (zbkB T fin.1 p e b bs).length := nI_le (by omega) (by omega)
      refine ⟨fun _ => w_Mo_choose_82 ?_, fun g => absurd hle g⟩
      rw [g2.1, nI_1]
      exact ⟨fun _ => hn, fun g => absurd hle g⟩
  have h80 := hb8 0
  have h81 := hb8 1
  refine step 0 0 4000 m2 (by decide) (by decide) (Nat.le_refl _) zFy.rf ⟨[], by rw [List.append_nil]; exact hw2⟩ (fun m3 f1 f2 => ?_)
  rw [if_pos (show (zbkB T fin.1 p e 0 bs).length < 4000 by omega), if_pos (show (zbkB T fin.1 p e 0 bs).length < 4000 by omega)]
  refine step 1 0 _ m3 (by decide) (by decide) (by omega) f1 f2 (fun m4 g1 g2 => ?_)
  refine step 2 _ _ m4 (by decide) (by split <;> omega) (by split <;> omega) g1 g2 (fun m5 j1 j2 => ?_)
  exact k3 _ m5 _ rfl j1 j2
end zMchoose
