/-! the reference reads what follows a command's literals -/
section zMcopy
variable {κ : zK} {d : Nat} {Q : Option zV → zM → Prop} {f : Nat → Int32} {sz P : Nat}
/-- the reference's state between commands -/
def zMst (f : Nat → Int32) (sz : Nat) (u : zU) (m : zM) : Prop := zSM f sz u.1 false m ∧ zMd u.2.1 m ∧ zMg u.2.2.1 m ∧ zRp u.2.2.1 ∧ m 68 5 = nI u.2.2.2.1 ∧ m 68 6 = nI u.2.2.2.2.1 ∧ m 68 7 = nI u.2.2.2.2.2
theorem zSM_k {P : Nat} {br : Bool} {m : zM} {k : Nat} {x : Int32} (h : zSM f sz P br m) (h1 : k ≠ 2) (h2 : k ≠ 8) (h3 : k ≠ 28) : zSM f sz P br (zms m 68 k x) :=
  zSM_of h (zms_ne (by decide)) (zms_nk (fun z => h1 z.symm)) (zms_nk (fun z => h2 z.symm)) (zms_nk (fun z => h3 z.symm))
theorem zSM_q {P : Nat} {br : Bool} {m : zM} {q k : Nat} {x : Int32} (h : zSM f sz P br m) (h1 : q ≠ 68) (h2 : q ≠ 70) : zSM f sz P br (zms m q k x) :=
  zSM_of h (zms_ne (fun z => h2 z.symm)) (by rw [zms_ne (fun z => h1 z.symm)]) (by rw [zms_ne (fun z => h1 z.symm)]) (by rw [zms_ne (fun z => h1 z.symm)])
theorem zGu_k {m : zM} {k : Nat} {x : Int32} (h : k = 5 ∨ k = 6 ∨ k = 7 ∨ k = 8 ∨ k = 28 ∨ k = 29) : zGu m (zms m 68 k x) := ⟨fun q a _ _ => zms_ne a, fun i a b c e g j => zms_nk (by omega)⟩
theorem zGu_75 {m : zM} {k : Nat} {x : Int32} : zGu m (zms m 75 k x) := ⟨fun q _ b _ => zms_ne b, fun i _ _ _ _ _ _ => by rw [zms_ne (by decide)]⟩
theorem m_94_bad {m : zM} {x1 x2 x3 x4 x5 x6 : Int32} (hs : zSM f sz P true m) (hQ : ∀ m', zSM f sz P true m' → zGu m m' → Q none m') : zR κ (d + 1) Y_Mo_copy 94 [some (.inr 68), some (.inl x1), some (.inl x2), some (.inl x3), some (.inl x4), some (.inl x5), some (.inl x6), none, none] [] m Q := by
  refine w_Mo_copy_94 ⟨fun _ => hQ _ (zSM_k hs (by decide) (by decide) (by decide)) (zGu_k (by decide)), fun _ => w_Mo_remember_0 ⟨rfl, hQ _ ?_ ?_⟩⟩
  · exact zSM_q (zSM_q (zSM_q (zSM_q (zSM_k hs (by decide) (by decide) (by decide)) (by decide) (by decide)) (by decide) (by decide)) (by decide) (by decide)) (by decide) (by decide)
  · exact (((zGu_k (by decide)).tr zGu_75).tr (zGu_75.tr zGu_75)).tr zGu_75
theorem m_58_bad {m : zM} {x1 x2 x3 x4 x5 x6 : Int32} (hs : zSM f sz P true m) (hQ : ∀ m', zSM f sz P true m' → zGu m m' → Q none m') : zR κ (d + 1) Y_Mo_copy 58 [some (.inr 68), some (.inl x1), some (.inl x2), some (.inl x3), some (.inl x4), some (.inl x5), some (.inl x6), none, none] [] m Q :=
  w_Mo_copy_58 ⟨fun _ => m_94_bad hs hQ, fun _ => ⟨fun _ => m_94_bad hs hQ, fun z => absurd z (zbr_t hs)⟩⟩
/-- a plain copy -/
theorem m_58 {m : zM} {o : List Nat} {r : zRg} {limit cap mm dd s b w e : Nat} {x1 : Int32} (hcap : cap = min limit 96) (hl : limit ≤ 300) (hmm : mm ≤ 200) (hd1 : 1 ≤ dd) (hdo : dd ≤ o.length) (hs14 : s < 14) (hs : zSM f sz P false m) (ho : zMd o m) (hoc : o.length ≤ cap) (hr : zMg r m) (hp : zRp r) (hb : m 68 5 = nI b) (hw : m 68 6 = nI w) (he : m 68 7 = nI e)
    (h1 : ∀ m', o.length + mm ≤ cap → zMst f sz (P, zcp dd mm o, if s = 0 then r else zrem r dd, b + 1, w, e) m' → zGu m m' → Q none m')
    (h2 : ∀ m', cap < o.length + mm → zSM f sz P true m' → zGu m m' → Q none m') : zR κ (d + 1) Y_Mo_copy 58 [some (.inr 68), some (.inl x1), some (.inl (nI mm)), some (.inl (nI limit)), some (.inl (nI s)), some (.inl (nI dd)), some (.inl 0), none, none] [] m Q := by
  have key : ∀ (rr k : Nat) (m3 : zM) (o3 : List Nat), k + rr = mm → zSM f sz P false m3 → zMd o3 m3 → o3.length ≤ cap → o3.length + rr = o.length + mm → dd ≤ o3.length → zcp dd rr o3 = zcp dd mm o → (∀ q, q ≠ 68 → q ≠ 84 → m3 q = m q) → (∀ i, i ≠ 29 → m3 68 i = m 68 i) → zR κ (d + 1) Y_Mo_copy 58 [some (.inr 68), some (.inl x1), some (.inl (nI mm)), some (.inl (nI limit)), some (.inl (nI s)), some (.inl (nI dd)), some (.inl (nI k)), none, none] [] m3 Q := by
    intro rr
    induction rr with
    | zero =>
      intro k m3 o3 hk a1 a2 a3 a4 a5 a6 a7 a8
      have a6 : o3 = zcp dd mm o := a6
      have hF3 : zGu m m3 := ⟨fun q q1 _ q3 => a7 q q1 q3, fun i _ _ _ _ _ i6 => a8 i i6⟩
      refine w_Mo_copy_58 ⟨fun _ => ?_, fun z => absurd (nI_le (by omega) (by omega)) z⟩
      have hfin : ∀ m4 : zM, zSM f sz P false m4 → m4 84 = m3 84 → (∀ i, i ≠ 5 → m4 68 i = m3 68 i) → m4 68 5 = nI (b + 1) → zMg (if s = 0 then r else zrem r dd) m4 → zGu m3 m4 → Q none m4 := by
        intro m4 g1 g2 g3 g4 g5 g6
        refine h1 m4 (by omega) ⟨g1, ?_, g5, ?_, g4, ?_, ?_⟩ (hF3.tr g6)
        · rw [a6] at a2
          exact zMd_of (g3 29 (by decide)) g2 a2
        · show zRp (if s = 0 then r else zrem r dd)
          by_cases hs0 : s = 0
          · rw [if_pos hs0]
            exact hp
          · rw [if_neg hs0]
            exact ⟨⟨hd1, by have := ho.1; show dd ≤ 200; omega⟩, hp.1, hp.2.1, hp.2.2.1⟩
        · show m4 68 6 = nI w
          rw [g3 6 (by decide), a8 6 (by decide)]
          exact hw
        · show m4 68 7 = nI e
          rw [g3 7 (by decide), a8 7 (by decide)]
          exact he
      have e5 : (zms m3 68 5 (m3 68 5 + 1)) 68 5 = nI (b + 1) := by rw [zms_ss, a8 5 (by decide), hb, nI_1]
      refine w_Mo_copy_94 ⟨fun z => ?_, fun z => w_Mo_remember_0 ⟨rfl, ?_⟩⟩
      · have z : s = 0 := (nI_eq (by omega) (by decide)).mp z
        refine hfin _ (zSM_k a1 (by decide) (by decide) (by decide)) (zms_ne (by decide)) (fun i hi => zms_nk hi) e5 ?_ (zGu_k (by decide))
        rw [if_pos z]
        exact zMg_of (by rw [zms_ne (by decide)]; exact a7 75 (by decide) (by decide)) hr
      · have z : ¬ s = 0 := fun q => z (by rw [q]; rfl)
        have e75 : (zms m3 68 5 (m3 68 5 + 1)) 75 = m 75 := by rw [zms_ne (by decide)]; exact a7 75 (by decide) (by decide)
        obtain ⟨r0, r1, r2, r3⟩ := hr
        refine hfin _ ?_ ?_ ?_ ?_ ?_ ?_
        · exact zSM_q (zSM_q (zSM_q (zSM_q (zSM_k a1 (by decide) (by decide) (by decide)) (by decide) (by decide)) (by decide) (by decide)) (by decide) (by decide)) (by decide) (by decide)
        · rw [zms_ne (by decide), zms_ne (by decide), zms_ne (by decide), zms_ne (by decide), zms_ne (by decide)]
        · intro i hi
          rw [zms_ne (by decide), zms_ne (by decide), zms_ne (by decide), zms_ne (by decide), zms_nk hi]
        · rw [zms_ne (by decide), zms_ne (by decide), zms_ne (by decide), zms_ne (by decide)]
          exact e5
        · rw [if_neg z]
          refine ⟨zms_ss, ?_, ?_, ?_⟩
          · rw [zms_nk (by decide), zms_ss, e75]
            exact r0
          · rw [zms_nk (by decide), zms_nk (by decide), zms_ss, e75]
            exact r1
          · rw [zms_nk (by decide), zms_nk (by decide), zms_nk (by decide), zms_ss, e75]
            exact r2
        · exact (((zGu_k (by decide)).tr zGu_75).tr (zGu_75.tr zGu_75)).tr zGu_75
    | succ rr ih =>
      intro k m3 o3 hk a1 a2 a3 a4 a5 a6 a7 a8
      have hF3 : zGu m m3 := ⟨fun q q1 _ q3 => a7 q q1 q3, fun i _ _ _ _ _ i6 => a8 i i6⟩
      have h96 := a2.1
      refine w_Mo_copy_58 ⟨fun z => absurd z (nI_ge (by omega) (by omega)), fun _ => ⟨fun z => absurd (zbr_f a1) z, fun _ => ?_⟩⟩
      rw [a2.2.1, nI_sub a5, nI_clamp (by omega), a2.2.2.1 _ (by omega)]
      refine ⟨vp_in_nI (by omega) (by decide), r_make a1 a2 (a2.2.2.2 _ (zget_mem (by omega))) hl (fun z1 z2 m4 b1 b2 b3 b4 => ⟨rfl, ?_⟩) (fun z m4 b1 b2 b3 => ⟨rfl, ?_⟩)⟩
      · rw [nI_1]
        have elen : (o3 ++ [o3.getD (o3.length - dd) 0]).length = o3.length + 1 := by rw [List.length_append, List.length_singleton]
        exact ih (k + 1) m4 _ (by omega) b1 b2 (by omega) (by omega) (by omega) a6 (fun q q1 q2 => (b3 q q1 q2).trans (a7 q q1 q2)) (fun i hi => (b4 i hi).trans (a8 i hi))
      · exact m_58_bad b1 (fun m5 c1 c2 => h2 m5 (by omega) c1 ((hF3.tr ⟨fun q q1 _ _ => b2 q q1, fun i _ _ _ _ i5 _ => b3 i i5⟩).tr c2))
  exact key mm 0 m o (by omega) hs ho hoc rfl hdo rfl (fun _ _ _ => rfl) (fun _ _ => rfl)
theorem m_153_bad {m : zM} {mm x : Nat} {x1 x3 x4 x5 x7 : Int32} (h45 : mm = 4 ∨ mm = 5) (hx : x < 16) (hs : zSM f sz P true m) (hQ : ∀ m', zSM f sz P true m' → zGu m m' → Q none m') : zR κ (d + 1) Y_Mo_copy 153 [some (.inr 68), some (.inl x1), some (.inl (nI mm)), some (.inl x3), some (.inl x4), some (.inl x5), some (.inl (nI x)), some (.inl x7), none] [] m Q := by
  have hb : Q none (zms m 68 6 (m 68 6 + 1)) := hQ _ (zSM_k hs (by decide) (by decide) (by decide)) (zGu_k (by decide))
  exact w_Mo_copy_153 (s_Mo_bytesOf h45 hx ⟨_, rfl, fun _ => hb, fun _ => ⟨fun _ => hb, fun z => absurd z (zbr_t hs)⟩⟩)
/-- a word -/
theorem m_153 {m : zM} {o : List Nat} {r : zRg} {limit cap mm x b w e : Nat} {x1 x4 x5 : Int32} (hcap : cap = min limit 96) (hl : limit ≤ 300) (h45 : mm = 4 ∨ mm = 5) (hx : x < 16) (hs : zSM f sz P false m) (ho : zMd o m) (hoc : o.length ≤ cap) (hr : zMg r m) (hp : zRp r) (hb : m 68 5 = nI b) (hw : m 68 6 = nI w) (he : m 68 7 = nI e)
    (h1 : ∀ m', o.length + zyo mm x ≤ cap → zMst f sz (P, zwb mm x (zyo mm x) 0 o, r, b, w + 1, e) m' → zGu m m' → Q none m')
    (h2 : ∀ m', cap < o.length + zyo mm x → zSM f sz P true m' → zGu m m' → Q none m') : zR κ (d + 4) Y_Mo_copy 153 [some (.inr 68), some (.inl x1), some (.inl (nI mm)), some (.inl (nI limit)), some (.inl x4), some (.inl x5), some (.inl (nI x)), some (.inl 0), none] [] m Q := by
  have hy6 : zyo mm x ≤ 6 := Nat.le_trans zyo_le (by omega)
  have key : ∀ (rr k : Nat) (m3 : zM) (o3 : List Nat), k + rr = zyo mm x → zSM f sz P false m3 → zMd o3 m3 → o3.length ≤ cap → o3.length + rr = o.length + zyo mm x → zwb mm x rr k o3 = zwb mm x (zyo mm x) 0 o → (∀ q, q ≠ 68 → q ≠ 84 → m3 q = m q) → (∀ i, i ≠ 29 → m3 68 i = m 68 i) → zR κ (d + 4) Y_Mo_copy 153 [some (.inr 68), some (.inl x1), some (.inl (nI mm)), some (.inl (nI limit)), some (.inl x4), some (.inl x5), some (.inl (nI x)), some (.inl (nI k)), none] [] m3 Q := by
    intro rr
    induction rr with
    | zero =>
      intro k m3 o3 hk a1 a2 a3 a4 a6 a7 a8
      have a6 : o3 = zwb mm x (zyo mm x) 0 o := a6
      have hF3 : zGu m m3 := ⟨fun q q1 _ q3 => a7 q q1 q3, fun i _ _ _ _ _ i6 => a8 i i6⟩
      refine w_Mo_copy_153 (s_Mo_bytesOf h45 hx ⟨_, rfl, fun _ => ?_, fun z => absurd (nI_le (by omega) (by omega)) z⟩)
      rw [a6] at a2
      refine h1 _ (by omega) ⟨zSM_k a1 (by decide) (by decide) (by decide), zMd_of (zms_nk (by decide)) (zms_ne (by decide)) a2, zMg_of (by rw [zms_ne (by decide)]; exact a7 75 (by decide) (by decide)) hr, hp, ?_, ?_, ?_⟩ (hF3.tr (zGu_k (by decide)))
      · rw [zms_nk (by decide), a8 5 (by decide)]
        exact hb
      · show (zms m3 68 6 (m3 68 6 + 1)) 68 6 = nI (w + 1)
        rw [zms_ss, a8 6 (by decide), hw, nI_1]
      · rw [zms_nk (by decide), a8 7 (by decide)]
        exact he
    | succ rr ih =>
      intro k m3 o3 hk a1 a2 a3 a4 a6 a7 a8
      have hF3 : zGu m m3 := ⟨fun q q1 _ q3 => a7 q q1 q3, fun i _ _ _ _ _ i6 => a8 i i6⟩
      have h96 := a2.1
      refine w_Mo_copy_153 (s_Mo_bytesOf h45 hx ⟨_, rfl, fun z => absurd z (nI_ge (by omega) (by omega)), fun _ => ⟨fun z => absurd (zbr_f a1) z, fun _ => ?_⟩⟩)
      refine s_Mo_byteOf h45 hx (by omega) ⟨_, rfl, ?_⟩
      obtain ⟨b1, b2⟩ := zby_b (k := k) h45 hx (by omega)
      rw [b1]
      refine r_make a1 a2 b2 hl (fun z1 z2 m4 c1 c2 c3 c4 => ⟨rfl, ?_⟩) (fun z m4 c1 c2 c3 => ⟨rfl, ?_⟩)
      · rw [nI_1]
        have elen : (o3 ++ [(zby mm x k).toNatClampNeg]).length = o3.length + 1 := by rw [List.length_append, List.length_singleton]
        exact ih (k + 1) m4 _ (by omega) c1 c2 (by omega) (by omega) a6 (fun q q1 q2 => (c3 q q1 q2).trans (a7 q q1 q2)) (fun i hi => (c4 i hi).trans (a8 i hi))
      · exact m_153_bad h45 hx c1 (fun m5 g1 g2 => h2 m5 (by omega) g1 ((hF3.tr ⟨fun q q1 _ _ => c2 q q1, fun i _ _ _ _ i5 _ => c3 i i5⟩).tr g2))
  exact key (zyo mm x) 0 m o (by omega) hs ho hoc rfl rfl (fun _ _ _ => rfl) (fun _ _ => rfl)
set_option maxHeartbeats 1000000 in
theorem m_copy {m : zM} {o : List Nat} {r : zRg} {ld : List (Nat × Nat)} {limit cap c mm b w e : Nat} {tot : Option zU} (hc : c < 8) (hcap : cap = min limit 96) (hl : limit ≤ 300) (hmm : mm ≤ 200) (hs : zSM f sz P false m) (ho : zMd o m) (hoc : o.length ≤ cap) (hr : zMg r m) (hp : zRp r) (hk : zMc 768 14 ld m) (hb : m 68 5 = nI b) (hw : m 68 6 = nI w) (he : m 68 7 = nI e)
    (ht : tot = match zdst f (8 * sz) ld c r P e with | none => none | some (s, dd, P5, e5) => zend cap mm s dd P5 o r b w e5)
    (h1 : ∀ m' u', tot = some u' → zMst f sz u' m' → zGu m m' → Q none m')
    (h2 : ∀ m' P', tot = none → zSM f sz P' true m' → zGu m m' → Q none m') : zR κ (d + 5) Y_Mo_copy 0 [some (.inr 68), some (.inl (nI c)), some (.inl (nI mm)), some (.inl (nI limit)), none, none, none, none, none] [] m Q := by
  have k17 : ∀ (m1 : zM) (P1 s e1 : Nat) (br1 : Bool), s < 14 → zSM f sz P1 br1 m1 → (∀ q, q ≠ 68 → m1 q = m q) → (∀ i, i ≠ 7 → i ≠ 8 → i ≠ 28 → m1 68 i = m 68 i) → (br1 = false → m1 68 7 = nI e1 ∧ zdst f (8 * sz) ld c r P e = (match zdsp f (8 * sz) s r P1 with | none => none | some (dd, P2) => some (s, dd, P2, e1))) → (br1 = true → tot = none) →
      zR κ (d + 4 + 1) Y_Mo_copy 17 [some (.inr 68), some (.inl (nI c)), some (.inl (nI mm)), some (.inl (nI limit)), none, none, none, none, none] [.inl (nI s)] m1 Q := by
    intro m1 P1 s e1 br1 hs14 a1 a2 a3 a4 a5
    have hF1 : zGu m m1 := zGu_68 a2 a3
    refine w_Mo_copy_17 (m_readDistance hs14 a1 (fun _ => zMg_of (a2 75 (by decide)) hr) hp (fun y P2 br2 m2 b1 b2 b3 b4 b5 => ⟨y, rfl, fun z => ?_, fun z => ?_⟩))
    · have hF2 : zGu m1 m2 := zGu_68 b2 (fun i _ i2 i3 => b3 i i2 i3)
      have hbr2 : br2 = true := by
        cases br2 with
        | true => rfl
        | false => exact absurd (zbr_f b1) z
      refine h2 _ P2 ?_ (zSM_br b1) ((hF1.tr hF2).tr (zGu_k (by decide)))
      cases hbr1 : br1 with
      | true => exact a5 hbr1
      | false =>
        rcases b5 hbr2 with q | q
        · rw [hbr1] at q
          cases q
        · rw [ht, (a4 hbr1).2, q]
    · have hF2 : zGu m1 m2 := zGu_68 b2 (fun i _ i2 i3 => b3 i i2 i3)
      have hF := hF1.tr hF2
      have hbr2 : br2 = false := by
        cases br2 with
        | false => rfl
        | true => exact absurd z (zbr_t b1)
      subst hbr2
      obtain ⟨hbr1, dd, hdd, rfl, hdist⟩ := b4 rfl
      obtain ⟨g1, g2⟩ := a4 hbr1
      rw [hdist] at g2
      have htot : tot = zend cap mm s dd P2 o r b w e1 := by rw [ht, g2]
      have hD : zMd o m2 := zMd_of (by rw [b3 29 (by decide) (by decide)]; exact a3 29 (by decide) (by decide) (by decide)) (by rw [b2 84 (by decide)]; exact a2 84 (by decide)) ho
      have hG : zMg r m2 := zMg_of (by rw [b2 75 (by decide)]; exact a2 75 (by decide)) hr
      have hb' : m2 68 5 = nI b := by rw [b3 5 (by decide) (by decide), a3 5 (by decide) (by decide) (by decide)]; exact hb
      have hw' : m2 68 6 = nI w := by rw [b3 6 (by decide) (by decide), a3 6 (by decide) (by decide) (by decide)]; exact hw
      have he' : m2 68 7 = nI e1 := by rw [b3 7 (by decide) (by decide)]; exact g1
      have h96 := ho.1
      have hbrk : tot = none → Q none (zms m2 68 28 1) := fun q => h2 _ P2 q (zSM_br b1) (hF.tr (zGu_k (by decide)))
      rw [hD.2.1]
      refine ⟨fun hge => ⟨fun hgt => ?_, fun hle => ?_⟩, fun hlt => ?_⟩
      · have hge := (nI_leI (by decide) (by omega)).mp (show nI 1 ≤ nI dd from hge)
        have hgt := (nI_ltI (by omega) (by omega)).mp hgt
        have ex : nI dd - nI o.length - 1 = nI (dd - o.length - 1) := by
          rw [nI_sub (by omega)]
          exact nI_sub (b := 1) (by omega)
        rw [ex]
        have hze : zend cap mm s dd P2 o r b w e1 = (if (mm = 4 ∨ mm = 5) ∧ dd - o.length - 1 < 16 ∧ o.length + zyo mm (dd - o.length - 1) ≤ cap then some (P2, zwb mm (dd - o.length - 1) (zyo mm (dd - o.length - 1)) 0 o, r, b, w + 1, e1) else none) := by
          unfold zend
          rw [if_neg (by omega), if_neg (by omega)]
        rw [hze] at htot
        have hword : (mm = 4 ∨ mm = 5) → ((nI (dd - o.length - 1) ≤ 15 → zR κ (d + 4 + 1) Y_Mo_copy 153 [some (.inr 68), some (.inl (nI c)), some (.inl (nI mm)), some (.inl (nI limit)), some (.inl (nI s)), some (.inl (nI dd)), some (.inl (nI (dd - o.length - 1))), some (.inl 0), none] [] m2 Q) ∧ (¬ nI (dd - o.length - 1) ≤ 15 → Q none (zms m2 68 28 1))) := by
          intro h45
          refine ⟨fun q => ?_, fun q => hbrk ?_⟩
          · have q := (nI_leI (by omega) (by decide)).mp (show nI (dd - o.length - 1) ≤ nI 15 from q)
            refine m_153 hcap hl h45 (by omega) b1 hD hoc hG hp hb' hw' he' (fun m' k1 k2 k3 => ?_) (fun m' k1 k2 k3 => ?_)
            · rw [if_pos ⟨h45, by omega, k1⟩] at htot
              exact h1 m' _ htot k2 (hF.tr k3)
            · rw [if_neg (fun w => by omega)] at htot
              exact h2 m' _ htot k2 (hF.tr k3)
          · rw [htot, if_neg (fun w => q (show nI (dd - o.length - 1) ≤ nI 15 from nI_le (by omega) (by decide)))]
        refine ⟨fun q => hword (Or.inl ((nI_eq (by omega) (by decide)).mp q)), fun q => ⟨fun q2 => hbrk ?_, fun q2 => hword (Or.inr ((nI_eq (by omega) (by decide)).mp q2))⟩⟩
        rw [htot, if_neg]
        intro w
        rcases w.1 with w | w
        · exact q (by rw [w]; rfl)
        · exact q2 (by rw [w]; rfl)
      · have hge := (nI_leI (by decide) (by omega)).mp (show nI 1 ≤ nI dd from hge)
        have hle : dd ≤ o.length := by
          rcases Nat.lt_or_ge o.length dd with q | q
          · exact absurd (nI_lt q (by omega)) hle
          · exact q
        have hze : zend cap mm s dd P2 o r b w e1 = (if cap < o.length + mm then none else some (P2, zcp dd mm o, if s = 0 then r else zrem r dd, b + 1, w, e1)) := by
          unfold zend
          rw [if_neg (by omega), if_pos hle]
        rw [hze] at htot
        refine m_58 hcap hl hmm hge hle hs14 b1 hD hoc hG hp hb' hw' he' (fun m' k1 k2 k3 => ?_) (fun m' k1 k2 k3 => ?_)
        · rw [if_neg (by omega)] at htot
          exact h1 m' _ htot k2 (hF.tr k3)
        · rw [if_pos k1] at htot
          exact h2 m' _ htot k2 (hF.tr k3)
      · refine hbrk ?_
        rw [htot]
        unfold zend
        rw [if_pos]
        rcases Nat.lt_or_ge dd 1 with q | q
        · exact q
        · exact absurd (show nI 1 ≤ nI dd from nI_le q (by omega)) hlt
  refine w_Mo_copy_0 ⟨fun h7 => ?_, fun h7 => ?_⟩
  · have hc7 : ¬ c = 7 := fun z => h7 (by rw [z]; rfl)
    refine r_sym (B := 768) (S := 14) (nb := 4) (Or.inr (Or.inr (Or.inr ⟨rfl, rfl, rfl⟩))) hs (fun _ => hk) (fun y P1 br1 m1 a0 a1 a2 a3 a4 a5 => ⟨y, rfl, ?_⟩)
    obtain ⟨s, hs14, rfl⟩ := a0
    refine k17 m1 P1 s (e + 1) br1 hs14 a1 a2 a3 (fun q => ?_) (fun q => ?_)
    · obtain ⟨-, c1, s', c2, c3, c4⟩ := a4 q
      have es : s' = s := ((nI_eq (by omega) (by omega)).mp c3).symm
      subst es
      refine ⟨by rw [c1, he, nI_1], ?_⟩
      unfold zdst
      rw [if_neg hc7, c4]
      show (if 6 ≤ s' then (match zrd f (8 * sz) P1 (zDT.getD s' 0) with | none => none | some (v, P2) => some (s', zDB.getD s' 0 + v, P2, e + 1)) else some (s', zrg r s', P1, e + 1)) = _
      unfold zdsp
      by_cases h6 : 6 ≤ s'
      · rw [if_pos h6, if_pos h6]
        cases zrd f (8 * sz) P1 (zDT.getD s' 0) <;> rfl
      · rw [if_neg h6, if_neg h6]
    · rcases a5 q with z | z
      · cases z
      · rw [ht]
        unfold zdst
        rw [if_neg hc7, z]
  · have hc7 : c = 7 := (nI_eq (by omega) (by decide)).mp h7
    refine k17 m P 0 e false (by decide) hs (fun _ _ => rfl) (fun _ _ _ _ => rfl) (fun _ => ⟨he, ?_⟩) (fun q => by cases q)
    unfold zdst
    rw [if_pos hc7] <;> rfl
end zMcopy
