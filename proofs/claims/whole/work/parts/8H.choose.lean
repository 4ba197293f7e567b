/-! the shortest way is taken, on both sides -/
section zChoose
variable {κ : zK} {d : Nat} {Q : Option zV → zM → Prop} {T : List Nat} {p e : Nat} {cs : List zCmd} {bs : List Bool} {r : zRg}
def zbw (l0 l1 l2 : Nat) : Nat := if l2 < (if l1 < l0 then l1 else l0) then 2 else if l1 < l0 then 1 else 0
def zway (T : List Nat) (cs : List zCmd) (p e : Nat) (bs : List Bool) : Nat := zbw (zbkB T cs p e 0 bs).length (zbkB T cs p e 1 bs).length (zbkB T cs p e 2 bs).length
theorem zway_in : zway T cs p e bs ≤ 2 ∧ (zbkB T cs p e (zway T cs p e bs) bs).length ≤ (zbkB T cs p e 0 bs).length := by
  unfold zway zbw
  by_cases h1 : (zbkB T cs p e 1 bs).length < (zbkB T cs p e 0 bs).length
  · rw [if_pos h1, if_pos h1]
    by_cases h2 : (zbkB T cs p e 2 bs).length < (zbkB T cs p e 1 bs).length
    · rw [if_pos h2]
      exact ⟨Nat.le_refl _, by omega⟩
    · rw [if_neg h2]
      exact ⟨by decide, by omega⟩
  · rw [if_neg h1, if_neg h1]
    by_cases h2 : (zbkB T cs p e 2 bs).length < (zbkB T cs p e 0 bs).length
    · rw [if_pos h2]
      exact ⟨Nat.le_refl _, by omega⟩
    · rw [if_neg h2]
      exact ⟨by decide, Nat.le_refl _⟩
theorem zbkB_pre {way : Nat} : ∃ l, zbkB T cs p e way bs = bs ++ l := by
  unfold zbkB zpad
  split
  · exact ⟨_, by rw [List.append_assoc, List.append_assoc]⟩
  · exact ⟨_, by rw [List.append_assoc]⟩
theorem zgetD_pre {l : List Bool} {j : Nat} (hj : j < bs.length) : (bs ++ l).getD j false = bs.getD j false := by
  rw [List.getD_eq_getElem?_getD, List.getElem?_append_left hj, ← List.getD_eq_getElem?_getD]
theorem zWB_back {m : zM} {l : List Bool} (h : zWB m (bs ++ l)) : zWB (zms m 3 2 (nI bs.length)) bs := by
  have hl := h.2.1
  rw [List.length_append] at hl
  refine ⟨zms_ss, by omega, fun k hk => by rw [zms_ne (by decide)]; exact h.2.2.1 k hk, fun j h1 h2 => ?_⟩
  have h3 := h.2.2.2 j (by rw [List.length_append]; omega) h2
  rw [zgetD_pre h1] at h3
  unfold zbit at h3 ⊢
  rw [zms_ne (by decide)]
  exact h3
theorem zWM_back {m : zM} {l : List Bool} (h : zWM m (bs ++ l)) : zWM (zms m 68 8 (nI bs.length)) bs := by
  refine ⟨zms_ss, fun j hj => ?_⟩
  have h3 := h.2 j (by rw [List.length_append]; omega)
  rw [zgetD_pre hj] at h3
  rw [zms_ne (by decide)]
  exact h3
theorem s_ringBecome {c c1 : Nat} {m : zM} (hc : is_Ring c) (hc1 : is_Ring c1) (hr : zRc (c1 + 1) r m) (hQ : ∀ m', (∀ q, q ≠ c + 1 → m' q = m q) → zRc (c + 1) r m' → Q none m') : zR κ (d + 1) Y_Ring_become 0 [some (.inr c), some (.inr c1)] [] m Q := by
  have hk : ∀ k, k < 4 → zmr m (c + 1) (va_cpy (m (c1 + 1)) (m (c + 1)) 0 0 4) (c + 1) k = m (c1 + 1) k := by
    intro k hk
    rw [zmr_ss]
    show (if 0 ≤ k ∧ k < 0 + 4 then m (c1 + 1) (0 + (k - 0)) else m (c + 1) k) = _
    rw [if_pos ⟨Nat.zero_le _, by omega⟩, show 0 + (k - 0) = k by omega]
  exact w_Ring_become_0 hc hc1 (hQ _ (fun q hq => zmr_ne hq) ⟨by rw [hk 0 (by decide)]; exact hr.1, by rw [hk 1 (by decide)]; exact hr.2.1, by rw [hk 2 (by decide)]; exact hr.2.2.1, by rw [hk 3 (by decide)]; exact hr.2.2.2⟩)
/-- what a block adds to the counts -/
def zdk (cs : List zCmd) (w k : Nat) : Nat := if w = 0 then 0 else if k = 0 then 1 else if k = 1 then zncp cs else if k = 2 then znwd cs else znsy cs
theorem s_addBlock {m : zM} {a b c : Nat} (h9 : m 31 9 = nI a) (h10 : m 31 10 = nI b) (h11 : m 31 11 = nI c) (hQ : ∀ m', (∀ q, q ≠ 7 → m' q = m q) → m' 7 0 = m 7 0 + 1 → m' 7 1 = m 7 1 + nI a → m' 7 2 = m 7 2 + nI b → m' 7 3 = m 7 3 + nI c → Q none m') : zR κ d Y_Counts_addBlock 0 [some (.inr 7), some (.inr 31)] [] m Q := by
  refine w_Counts_addBlock_0 is_Counts_7 (hQ _ (fun q hq => ?_) ?_ ?_ ?_ ?_)
  · rw [zms_ne hq, zms_ne hq, zms_ne hq, zms_ne hq]
  · rw [zms_nk (by decide), zms_nk (by decide), zms_nk (by decide), zms_ss]
  · rw [zms_nk (by decide), zms_nk (by decide), zms_ss, zms_nk (by decide), zms_ne (by decide), h9]
  · rw [zms_nk (by decide), zms_ss, zms_nk (by decide), zms_nk (by decide), zms_ne (by decide), zms_ne (by decide), h10]
  · rw [zms_ss, zms_nk (by decide), zms_nk (by decide), zms_nk (by decide), zms_ne (by decide), zms_ne (by decide), zms_ne (by decide), h11]
/-- what a block leaves alone in the class -/
def zFbk (m m' : zM) : Prop := (∀ q, q ≠ 3 → q ≠ 4 → q ≠ 7 → q ≠ 9 → (q < 11 ∨ 40 < q) → m' q = m q) ∧ ∀ k, k ≠ 2 → m' 3 k = m 3 k
theorem zFbk.tr {m m' m'' : zM} (h : zFbk m m') (h' : zFbk m' m'') : zFbk m m'' := ⟨fun q a b c e g => (h'.1 q a b c e g).trans (h.1 q a b c e g), fun k a => (h'.2 k a).trans (h.2 k a)⟩
set_option maxHeartbeats 1000000 in
theorem s_block {m : zM} {fin : List zCmd × zRg} (hfin : zpar T (min T.length (p + 48)) 48 p p r [] = fin) (hT : zTx T m) (hlt : p < T.length) (hr : zRc 9 r m) (hrp : zRp r) (hC : zC4p m) (hl : bs.length ≤ 4000) (hw : zWB m bs)
    (hQ : ∀ m', zWB m' (zbkB T fin.1 p (min T.length (p + 48)) (zway T fin.1 p (min T.length (p + 48)) bs) bs) → zRc 9 (if zway T fin.1 p (min T.length (p + 48)) bs = 0 then r else fin.2) m' → zRp fin.2 → zC4p m' → (∀ k, k < 4 → m' 7 k = m 7 k + nI (zdk fin.1 (zway T fin.1 p (min T.length (p + 48)) bs) k)) → zFbk m m' → Q none m') :
    zR κ (d + 8) Y_Packer_writeBlock 0 [some (.inr 6), some (.inr 1), some (.inr 3), some (.inl (nI p)), none, none, none, none, none] [] m Q := by
  have h96 := hT.1
  have ee : (if nI T.length < nI (p + 48) then nI T.length else nI (p + 48)) = nI (min T.length (p + 48)) := by
    by_cases h : T.length < p + 48
    · rw [if_pos (nI_lt h (by omega)), show min T.length (p + 48) = T.length by omega]
    · rw [if_neg (nI_nlt (by omega) (by omega)), show min T.length (p + 48) = p + 48 by omega]
  have e48 : nI p + 48 = nI (p + 48) := nI_add p 48
  have hok := zpar_ok (T := T) (p := p) (e := min T.length (p + 48)) (by omega) (by omega) 48 p p r [] (by omega) (Nat.le_refl _) (by omega) (Nat.le_refl _) (by rw [List.length_nil]; omega) rfl (fun c hc => absurd hc List.not_mem_nil)
  rw [hfin] at hok
  generalize hE : min T.length (p + 48) = E at *
  have hpE : p < E := by omega
  have hEl : E ≤ T.length := by omega
  have hpe : E ≤ p + 48 := by omega
  clear hE
  refine w_Packer_writeBlock_0 is_Text_1 ?_
  rw [hT.2.1, e48, ee]
  refine w_Plan_parse_0 is_Text_1 is_Ring_8 (s_ringBecome is_Ring_33 is_Ring_8 hr (fun m1 a1 a2 => ⟨rfl, ?_⟩))
  have hP1 : zPl [] (zms (zms (zms (zms m1 31 8 0) 31 9 0) 31 10 0) 31 11 0) := ⟨by rw [zms_nk (by decide), zms_nk (by decide), zms_nk (by decide), zms_ss]; rfl, fun k hk => absurd hk (Nat.not_lt_zero k), by rw [zms_nk (by decide), zms_nk (by decide), zms_ss]; rfl, by rw [zms_nk (by decide), zms_ss]; rfl, by rw [zms_ss]; rfl⟩
  have hF1 : zFp m (zms (zms (zms (zms m1 31 8 0) 31 9 0) 31 10 0) 31 11 0) := fun q q1 q2 q3 => by rw [zms_ne q1, zms_ne q1, zms_ne q1, zms_ne q1]; exact a1 q (by omega)
  refine s_parse_loop (m0 := m) (fin := fin) hEl h96 hpe (fun m2 b1 b2 b3 b4 => ⟨rfl, ?_⟩) 48 0 p p r [] _ rfl (by omega) (Nat.le_refl _) (by omega) (by rw [List.length_nil]; omega) (zTx_of (by rw [zms_ne (by decide), zms_ne (by decide), zms_ne (by decide), zms_ne (by decide)]; exact a1 1 (by decide)) (by rw [zms_ne (by decide), zms_ne (by decide), zms_ne (by decide), zms_ne (by decide)]; exact a1 2 (by decide)) hT) hP1 (zRc_of (by rw [zms_ne (by decide), zms_ne (by decide), zms_ne (by decide), zms_ne (by decide)]) a2) hrp hF1 hfin
  have hT2 : zTx T m2 := zTx_of (b4 1 (by decide) (by decide) (by decide)) (b4 2 (by decide) (by decide) (by decide)) hT
  have hC2 : zC4p m2 := ⟨zCode_of (b4 _ (by decide) (by decide) (by decide)) (b4 _ (by decide) (by decide) (by decide)) (b4 _ (by decide) (by decide) (by decide)) hC.1, zCode_of (b4 _ (by decide) (by decide) (by decide)) (b4 _ (by decide) (by decide) (by decide)) (b4 _ (by decide) (by decide) (by decide)) hC.2.1, zCode_of (b4 _ (by decide) (by decide) (by decide)) (b4 _ (by decide) (by decide) (by decide)) (b4 _ (by decide) (by decide) (by decide)) hC.2.2.1, zCode_of (b4 _ (by decide) (by decide) (by decide)) (b4 _ (by decide) (by decide) (by decide)) (b4 _ (by decide) (by decide) (by decide)) hC.2.2.2⟩
  have hw2 : zWB m2 bs := by
    unfold zWB zbit
    rw [b4 3 (by decide) (by decide) (by decide), b4 4 (by decide) (by decide) (by decide)]
    exact hw
  have e32 : m2 3 2 = nI bs.length := hw2.1
  rw [e32]
  clear hP1 hF1 a1 a2
  -- one way
  have one : ∀ (w : Nat) (m3 : zM) (R : Option zV → zM → Prop), w ≤ 2 → zFz m2 m3 → zC4p m3 → (∃ l, zWB m3 (bs ++ l)) → (∀ m4, zFz m2 m4 → zC4p m4 → zWB m4 (zbkB T fin.1 p E w bs) → R none m4) → zR κ (d + 7) Y_BitStream_goBackTo 0 [some (.inr 3), some (.inl (nI bs.length))] [] m3 (fun r m5 => r = none ∧ zR κ (d + 7) Y_Packer_writeInWay 0 [some (.inr 6), some (.inl (nI w)), some (.inr 1), some (.inr 3), some (.inl (nI p)), some (.inl (nI E)), none, none, none] [] m5 R) := by
    intro w m3 R hw3 hF3 hC3 hl3 hR
    obtain ⟨l, hl3⟩ := hl3
    have hb := zWB_back hl3
    have hF4 : zF34 m3 (zms m3 3 2 (nI bs.length)) := ⟨fun q q1 q2 => zms_ne q1, fun k hk => zms_nk hk⟩
    have hC4 : zC4p (zms m3 3 2 (nI bs.length)) := ⟨zCode_of (zms_ne (by decide)) (zms_ne (by decide)) (zms_ne (by decide)) hC3.1, zCode_of (zms_ne (by decide)) (zms_ne (by decide)) (zms_ne (by decide)) hC3.2.1, zCode_of (zms_ne (by decide)) (zms_ne (by decide)) (zms_ne (by decide)) hC3.2.2.1, zCode_of (zms_ne (by decide)) (zms_ne (by decide)) (zms_ne (by decide)) hC3.2.2.2⟩
    exact w_BitStream_goBackTo_0 ⟨rfl, s_inWay (d := d + 3) hw3 (zTx_z (hF3.tr hF4.z) hT2) (zPl_z (hF3.tr hF4.z) b1) hok hpE hEl hpe hC4 hl hb (fun m' g1 g2 g3 => hR m' ((hF3.tr hF4.z).tr g2) g3 g1)⟩
  have hpre : ∀ (w : Nat) (m4 : zM), zWB m4 (zbkB T fin.1 p E w bs) → ∃ l, zWB m4 (bs ++ l) := by
    intro w m4 h
    obtain ⟨l, hl⟩ := zbkB_pre (T := T) (cs := fin.1) (p := p) (e := E) (bs := bs) (way := w)
    rw [hl] at h
    exact ⟨l, h⟩
  have hb8 := fun w => (zbkB_len (T := T) (way := w) (bs := bs) hok hpe).1
  -- the end
  have k3 : ∀ (w : Nat) (m3 : zM) (x7 : Int32), w = zway T fin.1 p E bs → zFz m2 m3 → zC4p m3 → (∃ l, zWB m3 (bs ++ l)) → zR κ (d + 7 + 1) Y_Packer_writeBlock 43 [some (.inr 6), some (.inr 1), some (.inr 3), some (.inl (nI p)), some (.inl (nI E)), some (.inl (nI bs.length)), some (.inl (nI w)), some (.inl x7), some (.inl (nI 3))] [] m3 Q := by
    intro w m3 x7 hwe hF3 hC3 hl3
    have hw2' : w ≤ 2 := by rw [hwe]; exact zway_in.1
    refine w_Packer_writeBlock_43 is_Text_1 ⟨fun _ => one w m3 _ hw2' hF3 hC3 hl3 (fun m4 g1 g2 g3 => ⟨rfl, fun g => ?_, fun g => ?_⟩), fun g => absurd (by decide) g⟩
    · have g : w = 0 := (nI_eq (by omega) (by decide)).mp g
      rw [← hwe, g] at hQ
      rw [g] at g3
      refine hQ m4 g3 ?_ b3 g2 (fun k hk => ?_) ⟨fun q q1 q2 q3 q4 q5 => by rw [g1.1 q q1 q2 (by omega)]; exact b4 q (by omega) (by omega) (by omega), fun k hk => by rw [g1.2 k hk, b4 3 (by decide) (by decide) (by decide)]⟩
      · rw [if_pos rfl]
        exact zRc_of (by rw [g1.1 9 (by decide) (by decide) (by decide)]; exact b4 9 (by decide) (by decide) (by decide)) hr
      · rw [g1.1 7 (by decide) (by decide) (by decide), b4 7 (by decide) (by decide) (by decide), show zdk fin.1 0 k = 0 from if_pos rfl, show nI 0 = 0 from rfl, Int32.add_zero]
    · have g : ¬ w = 0 := fun z => g (by rw [z]; rfl)
      rw [← hwe] at hQ
      have hP4 := zPl_z g1 b1
      refine s_ringBecome (d := d + 6) is_Ring_8 is_Ring_33 (r := fin.2) (zRc_of (g1.1 34 (by decide) (by decide) (by decide)) b2) (fun m5 j1 j2 => ⟨rfl, ?_⟩)
      refine s_addBlock (by rw [j1 31 (by decide)]; exact hP4.2.2.1) (by rw [j1 31 (by decide)]; exact hP4.2.2.2.1) (by rw [j1 31 (by decide)]; exact hP4.2.2.2.2) (fun m6 v0 v1 v2 v3 v4 => ⟨rfl, ?_⟩)
      have e7 : m5 7 = m 7 := by rw [j1 7 (by decide), g1.1 7 (by decide) (by decide) (by decide), b4 7 (by decide) (by decide) (by decide)]
      rw [e7] at v1 v2 v3 v4
      refine hQ m6 ?_ ?_ b3 ?_ (fun k hk => ?_) ⟨fun q q1 q2 q3 q4 q5 => by rw [v0 q q3, j1 q q4, g1.1 q q1 q2 (by omega)]; exact b4 q (by omega) (by omega) (by omega), fun k hk => by rw [v0 3 (by decide), j1 3 (by decide), g1.2 k hk, b4 3 (by decide) (by decide) (by decide)]⟩
      · unfold zWB zbit
        rw [v0 3 (by decide), j1 3 (by decide), v0 4 (by decide), j1 4 (by decide)]
        exact g3
      · rw [if_neg g]
        exact zRc_of (v0 9 (by decide)) j2
      · have hh : ∀ q, q ≠ 7 → q ≠ 9 → m6 q = m4 q := fun q q1 q2 => by rw [v0 q q1, j1 q q2]
        exact ⟨zCode_of (hh _ (by decide) (by decide)) (hh _ (by decide) (by decide)) (hh _ (by decide) (by decide)) g2.1, zCode_of (hh _ (by decide) (by decide)) (hh _ (by decide) (by decide)) (hh _ (by decide) (by decide)) g2.2.1, zCode_of (hh _ (by decide) (by decide)) (hh _ (by decide) (by decide)) (hh _ (by decide) (by decide)) g2.2.2.1, zCode_of (hh _ (by decide) (by decide)) (hh _ (by decide) (by decide)) (hh _ (by decide) (by decide)) g2.2.2.2⟩
      · unfold zdk
        rw [if_neg g]
        rcases (show k = 0 ∨ k = 1 ∨ k = 2 ∨ k = 3 by omega) with rfl | rfl | rfl | rfl
        · exact v1
        · exact v2
        · exact v3
        · exact v4
  -- the second coded way
  have k2 : ∀ (w l : Nat) (m3 : zM), w ≤ 2 → (if (zbkB T fin.1 p E 2 bs).length < l then 2 else w) = zway T fin.1 p E bs → l < 10000 → zFz m2 m3 → zC4p m3 → (∃ l, zWB m3 (bs ++ l)) → zR κ (d + 7 + 1) Y_Packer_writeBlock 43 [some (.inr 6), some (.inr 1), some (.inr 3), some (.inl (nI p)), some (.inl (nI E)), some (.inl (nI bs.length)), some (.inl (nI w)), some (.inl (nI l)), some (.inl (nI 2))] [] m3 Q := by
    intro w l m3 hw3 hwe hlb hF3 hC3 hl3
    have h8 := hb8 2
    refine w_Packer_writeBlock_43 is_Text_1 ⟨fun g => absurd g (by decide), fun _ => one 2 m3 _ (by decide) hF3 hC3 hl3 (fun m4 g1 g2 g3 => ⟨rfl, fun g => absurd g (by decide), fun _ => ?_⟩)⟩
    rw [show nI 2 + 1 = nI 3 from rfl, g3.1]
    refine ⟨fun g => k3 w m4 _ ?_ g1 g2 (hpre 2 m4 g3), fun g => k3 2 m4 _ ?_ g1 g2 (hpre 2 m4 g3)⟩
    · have g := (nI_leI (by omega) (by omega)).mp g
      rw [if_neg (by omega)] at hwe
      exact hwe
    · have g : (zbkB T fin.1 p E 2 bs).length < l := by
        rcases Nat.lt_or_ge (zbkB T fin.1 p E 2 bs).length l with z | z
        · exact z
        · exact absurd (nI_le z (by omega)) g
      rw [if_pos g] at hwe
      exact hwe
  -- the first way, and the first coded way
  refine w_Packer_writeBlock_43 is_Text_1 ⟨fun g => absurd g (by decide), fun _ => one 0 m2 _ (by decide) zFz.rf hC2 ⟨[], by rw [List.append_nil]; exact hw2⟩ (fun m3 f1 f2 f3 => ⟨rfl, fun _ => ?_, fun g => absurd rfl g⟩)⟩
  rw [show (0 : Int32) + 1 = nI 1 from rfl, f3.1]
  have h80 := hb8 0
  have h81 := hb8 1
  refine w_Packer_writeBlock_43 is_Text_1 ⟨fun g => absurd g (by decide), fun _ => one 1 m3 _ (by decide) f1 f2 (hpre 0 m3 f3) (fun m4 g1 g2 g3 => ⟨rfl, fun g => absurd g (by decide), fun _ => ?_⟩)⟩
  rw [show nI 1 + 1 = nI 2 from rfl, g3.1]
  refine ⟨fun g => k2 0 _ m4 (by decide) ?_ (by omega) g1 g2 (hpre 1 m4 g3), fun g => k2 1 _ m4 (by decide) ?_ (by omega) g1 g2 (hpre 1 m4 g3)⟩
  · have g := (nI_leI (by omega) (by omega)).mp g
    unfold zway zbw
    rw [if_neg (show ¬ (zbkB T fin.1 p E 1 bs).length < (zbkB T fin.1 p E 0 bs).length by omega), if_neg (show ¬ (zbkB T fin.1 p E 1 bs).length < (zbkB T fin.1 p E 0 bs).length by omega)]
  · have g : (zbkB T fin.1 p E 1 bs).length < (zbkB T fin.1 p E 0 bs).length := by
      rcases Nat.lt_or_ge (zbkB T fin.1 p E 1 bs).length (zbkB T fin.1 p E 0 bs).length with z | z
      · exact z
      · exact absurd (nI_le z (by omega)) g
    unfold zway zbw
    rw [if_pos g, if_pos g]
end zChoose
