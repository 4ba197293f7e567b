/-! the reference reads blocks and the whole -/
section zMall
variable {κ : zK} {d : Nat} {Q : Option zV → zM → Prop} {f : Nat → Int32} {sz P : Nat}
theorem r_Mo_take_in {n : Nat} {br : Bool} {m : zM} (hn : n ≤ 30) (h : zSM f sz P br m) (hin : P + n ≤ 8 * sz) (hQ : ∀ m', zSM f sz (P + n) br m' → (∀ q, q ≠ 68 → m' q = m q) → (∀ i, i ≠ 8 → m' 68 i = m 68 i) → Q (some (.inl (nI (zval f P n)))) m') : zR κ d Y_Mo_take 0 [some (.inr 68), some (.inl (nI n)), none, none] [] m Q := by
  obtain ⟨hs, hP, e4, hB, e1, e2, e3⟩ := h
  refine s_Mo_take hn hs e2 hP e1 (fun i hi => by rw [e4 i hi]; exact hB i (by omega)) (fun q => ?_) (fun q => by omega)
  rw [zval_congr (f := m 70) (g := f) n P (fun j h1 h2 => e4 _ (by omega))]
  exact hQ _ ⟨hs, q, fun i hi => by rw [zms_ne (by decide)]; exact e4 i hi, hB, by rw [zms_nk (by decide)]; exact e1, zms_ss, by rw [zms_nk (by decide)]; exact e3⟩ (fun q hq => zms_ne hq) (fun i h1 => zms_nk h1)
theorem zSM_28 {P : Nat} {br : Bool} {m : zM} (h : zSM f sz P br m) (br' : Bool) : zSM f sz P br' (zms m 68 28 (nI br'.toNat)) := by
  obtain ⟨s1, s2, s3, s4, s5, s6, s7⟩ := h
  exact ⟨s1, s2, fun i hi => by rw [zms_ne (by decide)]; exact s3 i hi, s4, by rw [zms_nk (by decide)]; exact s5, by rw [zms_nk (by decide)]; exact s6, zms_ss⟩
theorem m_pad : ∀ (r P : Nat) (br : Bool) (m : zM), (8 - P % 8) % 8 = r → zSM f sz P br m → (∀ m', zSM f sz (P + r) (br || decide (¬ zval f P r = 0)) m' → (∀ q, q ≠ 68 → m' q = m q) → (∀ i, i ≠ 8 → i ≠ 28 → m' 68 i = m 68 i) → Q none m') → zR κ (d + 1) Y_Mo_pad 0 [some (.inr 68)] [] m Q := by
  intro r
  induction r with
  | zero =>
    intro P br m hr hs hQ
    have hP : P ≤ 8 * sz := hs.2.1
    have h200 := hs.1
    have e1 : m 68 8 - m 68 8 / 8 * 8 = nI (P % 8) := by rw [hs.2.2.2.2.2.1]; exact pk_rem (by omega) (by decide) (by decide)
    refine w_Mo_pad_0 ⟨fun _ => hQ m ?_ (fun _ _ => rfl) (fun _ _ _ => rfl), fun z => ?_⟩
    · have : (br || decide (¬ zval f P 0 = 0)) = br := by
        rw [decide_eq_false (fun z => z rfl), Bool.or_false]
      rw [this]
      exact hs
    · rw [e1, show P % 8 = 0 by omega] at z
      exact absurd (Int32.le_refl _) z
  | succ r ih =>
    intro P br m hr hs hQ
    have hP : P ≤ 8 * sz := hs.2.1
    have h200 := hs.1
    have e1 : m 68 8 - m 68 8 / 8 * 8 = nI (P % 8) := by rw [hs.2.2.2.2.2.1]; exact pk_rem (by omega) (by decide) (by decide)
    refine w_Mo_pad_0 ⟨fun z => ?_, fun _ => ?_⟩
    · rw [e1] at z
      have := (nI_leI (by omega) (by decide)).mp (show nI (P % 8) ≤ nI 0 from z)
      omega
    refine r_Mo_take_in (n := 1) (by decide) hs (by omega) (fun m1 a1 a2 a3 => ⟨_, rfl, ?_⟩)
    have hval : zval f P 1 = (zrb f P).toNat := by simp [zval]
    have hvs : zval f P (r + 1) = (zrb f P).toNat + 2 * zval f (P + 1) r := rfl
    have hnx : ∀ bb : Bool, bb = (br || zrb f P) → zR κ (d + 1) Y_Mo_pad 0 [some (.inr 68)] [] (zms m1 68 28 (nI bb.toNat)) Q := by
      intro bb hbb
      refine ih (P + 1) bb _ (by omega) (zSM_28 a1 bb) (fun m' b1 b2 b3 => hQ m' ?_ (fun q hq => by rw [b2 q hq, zms_ne hq, a2 q hq]) (fun i i1 i2 => by rw [b3 i i1 i2, zms_nk i2, a3 i i1]))
      have e2 : (bb || decide (¬ zval f (P + 1) r = 0)) = (br || decide (¬ zval f P (r + 1) = 0)) := by
        rw [hbb, hvs, Bool.or_assoc]
        congr 1
        cases hb : zrb f P with
        | true =>
          rw [Bool.true_or]
          exact (decide_eq_true (by show ¬ 1 + 2 * _ = 0; omega)).symm
        | false =>
          rw [Bool.false_or]
          by_cases hq : zval f (P + 1) r = 0
          · rw [decide_eq_false (fun z => z hq), decide_eq_false (fun z => z (by show 0 + 2 * _ = 0; omega))]
          · rw [decide_eq_true hq, decide_eq_true (by show ¬ 0 + 2 * _ = 0; omega)]
      rw [e2, show P + 1 + r = P + (r + 1) by omega] at b1
      exact b1
    rw [hval]
    refine ⟨fun z => ?_, fun z => ⟨fun z2 => ?_, fun z2 => ?_⟩⟩
    · refine hnx true ?_
      cases hb : zrb f P with
      | true => rw [Bool.or_true]
      | false => rw [hb] at z; exact absurd z (by decide)
    · refine hnx false ?_
      cases hb : zrb f P with
      | true => rw [hb] at z; exact absurd rfl z
      | false =>
        rw [Bool.or_false]
        cases br with
        | false => rfl
        | true => exact absurd z2 (zbr_t a1)
    · refine hnx true ?_
      cases br with
      | true => rfl
      | false => exact absurd (zbr_f a1) z2
theorem zpdd_val {P : Nat} (h : P ≤ 8 * sz) : zpdd f (8 * sz) P = if zval f P ((8 - P % 8) % 8) = 0 then some (P + (8 - P % 8) % 8) else none := by
  unfold zpdd zrd
  rw [if_pos (zpdd_in h)]
/-- pad as the pure rule has it -/
theorem r_pad {br : Bool} {m : zM} (hs : zSM f sz P br m) (hQ : ∀ m' P' br', zSM f sz P' br' m' → (∀ q, q ≠ 68 → m' q = m q) → (∀ i, i ≠ 8 → i ≠ 28 → m' 68 i = m 68 i) → (br' = false → br = false ∧ zpdd f (8 * sz) P = some P') → (br' = true → br = true ∨ zpdd f (8 * sz) P = none) → Q none m') : zR κ (d + 1) Y_Mo_pad 0 [some (.inr 68)] [] m Q := by
  refine m_pad _ P br m rfl hs (fun m' a1 a2 a3 => hQ m' _ _ a1 a2 a3 (fun z => ?_) (fun z => ?_))
  · rw [Bool.or_eq_false_iff] at z
    refine ⟨z.1, ?_⟩
    rw [zpdd_val hs.2.1, if_pos (by have := of_decide_eq_false z.2; omega)]
  · rw [Bool.or_eq_true] at z
    rcases z with z | z
    · exact Or.inl z
    · right
      rw [zpdd_val hs.2.1, if_neg (of_decide_eq_true z)]
def zGw (m m' : zM) : Prop := (∀ q, q ≠ 68 → q ≠ 73 → q ≠ 74 → q ≠ 75 → q ≠ 84 → m' q = m q) ∧ ∀ i, i ≠ 4 → i ≠ 5 → i ≠ 6 → i ≠ 7 → i ≠ 8 → i ≠ 28 → i ≠ 29 → m' 68 i = m 68 i
theorem zGw.rf {m : zM} : zGw m m := ⟨fun _ _ _ _ _ _ => rfl, fun _ _ _ _ _ _ _ _ => rfl⟩
theorem zGw.tr {m m' m'' : zM} (h : zGw m m') (h' : zGw m' m'') : zGw m m'' := ⟨fun q a b c e g => (h'.1 q a b c e g).trans (h.1 q a b c e g), fun i a b c e g j k => (h'.2 i a b c e g j k).trans (h.2 i a b c e g j k)⟩
theorem zGu.w {m m' : zM} (h : zGu m m') : zGw m m' := ⟨fun q a _ _ e g => h.1 q a e g, fun i _ b c e g j k => h.2 i b c e g j k⟩
theorem zFk.w {m m' : zM} (h : zFk m m') : zGw m m' := ⟨fun q a b c _ _ => h.1 q a b c, fun i _ _ _ _ g j _ => h.2 i g j⟩
theorem zGw_4 {m : zM} {x : Int32} : zGw m (zms m 68 4 x) := ⟨fun q a _ _ _ _ => zms_ne a, fun i a _ _ _ _ _ _ => zms_nk a⟩
theorem zFk_tk {m m' : zM} (h1 : ∀ q, q ≠ 68 → m' q = m q) (h2 : ∀ i, i ≠ 8 → i ≠ 28 → m' 68 i = m 68 i) : zFk m m' := ⟨fun q a _ _ => h1 q a, h2⟩
def zMb (f : Nat → Int32) (sz : Nat) (u : zU) (a : Nat) (m : zM) : Prop := zMst f sz u m ∧ m 68 4 = nI a
theorem zMst_k {u : zU} {P' : Nat} {m m' : zM} (h : zMst f sz u m) (hs : zSM f sz P' false m') (hF : zFk m m') : zMst f sz (P', u.2) m' :=
  ⟨hs, zMd_of (hF.2 29 (by decide) (by decide)) (hF.1 84 (by decide) (by decide) (by decide)) h.2.1, zMg_of (hF.1 75 (by decide) (by decide) (by decide)) h.2.2.1, h.2.2.2.1, by rw [hF.2 5 (by decide) (by decide)]; exact h.2.2.2.2.1, by rw [hF.2 6 (by decide) (by decide)]; exact h.2.2.2.2.2.1, by rw [hF.2 7 (by decide) (by decide)]; exact h.2.2.2.2.2.2⟩
set_option maxHeartbeats 1000000 in
theorem m_readCoded {m : zM} {u : zU} {a limit cap : Nat} {br : Bool} (hs : zSM f sz u.1 br m) (hu : br = false → zMb f sz u a m) (hcap : cap = min limit 96) (hl : limit ≤ 300) (hol : u.2.1.length ≤ cap) (h64 : limit ≤ u.2.1.length + 64)
    (h1 : ∀ m' u' a', br = false → zcoded f (8 * sz) cap limit u a = some (u', a') → zMb f sz u' a' m' → zGw m m' → Q none m')
    (h2 : ∀ m' P', (br = true ∨ zcoded f (8 * sz) cap limit u a = none) → zSM f sz P' true m' → zGw m m' → Q none m') :
    zR κ (d + 6) Y_Mo_readCoded 0 [some (.inr 68), some (.inl (nI limit)), none, none, none, none, none, none, none, none, none] [] m Q := by
  refine w_Mo_readCoded_0 (r_Mo_take (n := 1) (by decide) hs (fun v P1 br1 m1 a1 a2 a3 a4 a5 => ⟨nI v, rfl, ?_⟩))
  have hv : v < 2 := a1
  have hF1 : zFk m m1 := zFk_tk a3 a4
  have key : zR κ (d + 5 + 1) Y_Mo_readCoded 14 [some (.inr 68), some (.inl (nI limit)), none, none, none, none, none, none, none, none, none] [.inl (nI (decide (v = 1)).toNat)] m1 Q := by
    refine m_codes a2 (fun m2 K P2 b0 b1 b2 b3 b4 => ?_) (fun m2 P2 b1 b2 b3 => ?_)
    · have hbr : br = false := by
        cases br with
        | false => rfl
        | true =>
          have := a5.1 rfl
          rw [b0] at this
          cases this
      have hg : zrd f (8 * sz) u.1 1 = some (v, P1) := by
        rcases a5.2 hbr with ⟨z, _⟩ | ⟨_, z⟩
        · exact z
        · rw [b0] at z
          cases z
      obtain ⟨hst, ha⟩ := hu hbr
      have hF2 : zFk m m2 := hF1.tr b4
      have hst2 : zMst f sz (P2, u.2) m2 := zMst_k hst b2 hF2
      have hz : zcoded f (8 * sz) cap limit u a = (match zcmds f (8 * sz) K (decide (v = 1)) cap limit 64 (P2, u.2) with | none => none | some u' => some (u', a + 1)) := zcoded_s hg b1
      have hst3 : zMst f sz (P2, u.2) (zms m2 68 4 (m2 68 4 + 1)) := ⟨zSM_k b2 (by decide) (by decide) (by decide), zMd_of (zms_nk (by decide)) (zms_ne (by decide)) hst2.2.1, zMg_of (zms_ne (by decide)) hst2.2.2.1, hst2.2.2.2.1, by rw [zms_nk (by decide)]; exact hst2.2.2.2.2.1, by rw [zms_nk (by decide)]; exact hst2.2.2.2.2.2.1, by rw [zms_nk (by decide)]; exact hst2.2.2.2.2.2.2⟩
      have e4 : (zms m2 68 4 (m2 68 4 + 1)) 68 4 = nI (a + 1) := by rw [zms_ss, hF2.2 4 (by decide) (by decide), ha, nI_1]
      have hF3 : zGw m (zms m2 68 4 (m2 68 4 + 1)) := hF2.w.tr zGw_4
      refine m_cmdloop (K := K) (m0 := zms m2 68 4 (m2 68 4 + 1)) hcap hl (fun m' u' g1 g2 g3 => ?_) (fun m' P' g1 g2 g3 => ?_) 64 _ (P2, u.2) h64 hst3 (zMk_of (zms_ne (by decide)) (zms_ne (by decide)) b3) hol zGu.rf rfl
      · rw [g1] at hz
        exact h1 m' u' (a + 1) hbr hz ⟨g2, by rw [g3.2 4 (by decide) (by decide) (by decide) (by decide) (by decide) (by decide)]; exact e4⟩ (hF3.tr g3.w)
      · rw [g1] at hz
        exact h2 m' P' (Or.inr hz) g2 (hF3.tr g3.w)
    · refine h2 _ P2 ?_ (zSM_k b2 (by decide) (by decide) (by decide)) ((hF1.tr b3).w.tr zGw_4)
      cases hbr : br with
      | true => exact Or.inl rfl
      | false =>
        right
        rcases a5.2 hbr with ⟨z, z2⟩ | ⟨z, _⟩
        · rcases b1 with b1 | b1
          · rw [z2] at b1
            cases b1
          · exact zcoded_c z b1
        · exact zcoded_n z
  refine ⟨fun z => ?_, fun z => ?_⟩
  · have : decide (v = 1) = false := decide_eq_false (fun w => z (by rw [w]; rfl))
    rw [this] at key
    exact key
  · have : decide (v = 1) = true := decide_eq_true ((nI_eq (by omega) (by decide)).mp z)
    rw [this] at key
    exact key
theorem m_74_bad {m : zM} {x1 x2 x3 : Int32} (h01 : x1 = 0 ∨ x1 = 1) (hs : zSM f sz P true m) (hQ : Q (some (.inl x1)) m) : zR κ (d + 1) Y_Mo_readBlock 74 [some (.inr 68), some (.inl x1), some (.inl x2), some (.inl x3), none] [] m Q :=
  w_Mo_readBlock_74 ⟨fun _ => ⟨h01, hQ⟩, fun z => absurd z (zbr_t hs)⟩
theorem m_raw {limit : Nat} {x1 x2 : Int32} {m0 : zM} {tot : Option (Nat × List Nat)} (h01 : x1 = 0 ∨ x1 = 1) (hl : limit ≤ 300)
    (h1 : ∀ m' P' o', limit ≤ 96 → tot = some (P', o') → zSM f sz P' false m' → zMd o' m' → (∀ q, q ≠ 68 → q ≠ 84 → m' q = m0 q) → (∀ i, i ≠ 8 → i ≠ 28 → i ≠ 29 → m' 68 i = m0 68 i) → Q (some (.inl x1)) m')
    (h2 : ∀ m' P', (96 < limit ∨ tot = none) → zSM f sz P' true m' → zGu m0 m' → Q (some (.inl x1)) m') : ∀ (r : Nat) (m : zM) (P : Nat) (o : List Nat), o.length + r = limit → zSM f sz P false m → zMd o m → (∀ q, q ≠ 68 → q ≠ 84 → m q = m0 q) → (∀ i, i ≠ 8 → i ≠ 28 → i ≠ 29 → m 68 i = m0 68 i) → zraw f (8 * sz) r P o = tot →
    zR κ (d + 1) Y_Mo_readBlock 74 [some (.inr 68), some (.inl x1), some (.inl x2), some (.inl (nI limit)), none] [] m Q := by
  intro r
  induction r with
  | zero =>
    intro m P o hr hs ho hF hG ht
    have h96 := ho.1
    refine w_Mo_readBlock_74 ⟨fun z => absurd (zbr_f hs) z, fun _ => ⟨fun _ => ⟨h01, h1 m P o (by omega) ht.symm hs ho hF hG⟩, fun z => ?_⟩⟩
    rw [ho.2.1] at z
    exact absurd (nI_le (by omega) (by omega)) z
  | succ r ih =>
    intro m P o hr hs ho hF hG ht
    have h96 := ho.1
    refine w_Mo_readBlock_74 ⟨fun z => absurd (zbr_f hs) z, fun _ => ⟨fun z => ?_, fun _ => ?_⟩⟩
    · rw [ho.2.1] at z
      have := (nI_leI (by omega) (by omega)).mp z
      omega
    refine r_Mo_take (n := 8) (by decide) hs (fun v P1 br1 m1 a1 a2 a3 a4 a5 => ⟨nI v, rfl, ?_⟩)
    have hv : v < 256 := a1
    have hF1 : zGu m0 m1 := ⟨fun q q1 _ q3 => by rw [a3 q q1]; exact hF q q1 q3, fun i _ _ _ i4 i5 i6 => by rw [a4 i i4 i5]; exact hG i i4 i5 i6⟩
    unfold zraw at ht
    cases hbr : br1 with
    | true =>
      subst hbr
      have hz : zrd f (8 * sz) P 8 = none := by
        rcases a5.2 rfl with ⟨_, z⟩ | ⟨z, _⟩
        · cases z
        · exact z
      rw [hz] at ht
      exact r_make_bad a2 (by rw [a4 29 (by decide) (by decide)]; exact ho.2.1) h96 (fun m2 b1 b2 => ⟨rfl, m_74_bad h01 b1 (h2 m2 P1 (Or.inr ht.symm) b1 (hF1.tr b2))⟩)
    | false =>
      subst hbr
      have hz : zrd f (8 * sz) P 8 = some (v, P1) := by
        rcases a5.2 rfl with ⟨z, _⟩ | ⟨_, z⟩
        · exact z
        · cases z
      rw [hz] at ht
      refine r_make a2 (zMd_of (a4 29 (by decide) (by decide)) (a3 84 (by decide)) ho) hv hl (fun z1 z2 m2 b1 b2 b3 b4 => ⟨rfl, ?_⟩) (fun z m2 b1 b2 b3 => ⟨rfl, m_74_bad h01 b1 (h2 m2 P1 (Or.inl (by omega)) b1 (hF1.tr ⟨fun q q1 _ _ => b2 q q1, fun i _ _ _ _ i5 _ => b3 i i5⟩))⟩)
      refine ih m2 P1 (o ++ [v]) (by rw [List.length_append, List.length_singleton]; omega) b1 b2 (fun q q1 q2 => by rw [b3 q q1 q2, a3 q q1]; exact hF q q1 q2) (fun i i1 i2 i3 => by rw [b4 i i3, a4 i i1 i2]; exact hG i i1 i2 i3) ht
set_option maxHeartbeats 2000000 in
theorem m_readBlock {m : zM} {u : zU} {a : Nat} (hu : zMb f sz u a m)
    (h1 : ∀ m' (last : Bool) u' a', zblk f (8 * sz) u a = some (last, u', a') → zMb f sz u' a' m' → zGw m m' → Q (some (.inl (nI last.toNat))) m')
    (h2 : ∀ m' (y : Int32) P', zblk f (8 * sz) u a = none → zSM f sz P' true m' → zGw m m' → Q (some (.inl y)) m') :
    zR κ (d + 7) Y_Mo_readBlock 0 [some (.inr 68), none, none, none, none] [] m Q := by
  have hb01 : ∀ b : Bool, nI b.toNat = 0 ∨ nI b.toNat = 1 := fun b => by
    cases b
    · exact Or.inl rfl
    · exact Or.inr rfl
  have hl96 := hu.1.2.1.1
  -- behind the coded bit
  have k44 : ∀ (last : Bool) (m2 : zM) (P2 s0 P3 : Nat) (br3 : Bool), s0 < 2 → zSM f sz P3 br3 m2 → zFk m m2 → (br3 = true → zblk f (8 * sz) u a = none) → (br3 = false → zblk f (8 * sz) u a = zbody f (8 * sz) last P2 u a ∧ zrd f (8 * sz) P2 1 = some (s0, P3)) →
      zR κ (d + 6 + 1) Y_Mo_readBlock 44 [some (.inr 68), some (.inl (nI last.toNat)), none, none, none] [.inl (nI s0)] m2 Q := by
    intro last m2 P2 s0 P3 br3 hs0 b1 b2 b4 b5
    have e29 : m2 68 29 = nI u.2.1.length := by rw [b2.2 29 (by decide) (by decide)]; exact hu.1.2.1.2.1
    refine w_Mo_readBlock_44 (r_Mo_take (n := 6) (by decide) b1 (fun x P4 br4 m3 c1 c2 c3 c3' c4 => ⟨nI x, rfl, ?_⟩))
    have hx : x < 64 := c1
    rw [e29, nI_add, nI_1]
    have hF3 : zFk m m3 := b2.tr (zFk_tk c3 c3')
    -- what the block says, where nothing was wrong so far
    have hgood : br4 = false → br3 = false ∧ zblk f (8 * sz) u a = (if 96 < u.2.1.length + x + 1 then none else match (if s0 = 1 then zcoded f (8 * sz) (u.2.1.length + x + 1) (u.2.1.length + x + 1) (P4, u.2) a else zrawb f (8 * sz) (u.2.1.length + x + 1) (u.2.1.length + x + 1) (P4, u.2) a) with | none => none | some (u', a') => some (last, u', a')) := by
      intro hbr4
      have hbr3 : br3 = false := by
        cases br3 with
        | false => rfl
        | true =>
          have := c4.1 rfl
          rw [hbr4] at this
          cases this
      refine ⟨hbr3, ?_⟩
      obtain ⟨g1, g2⟩ := b5 hbr3
      have g3 : zrd f (8 * sz) P3 6 = some (x, P4) := by
        rcases c4.2 hbr3 with ⟨z, _⟩ | ⟨_, z⟩
        · exact z
        · rw [hbr4] at z
          cases z
      rw [g1]
      exact zbody_3 g2 g3
    have hbadz : br4 = true → zblk f (8 * sz) u a = none := by
      intro hbr4
      cases hbr3 : br3 with
      | true => exact b4 hbr3
      | false =>
        obtain ⟨g1, g2⟩ := b5 hbr3
        rw [g1]
        rcases c4.2 hbr3 with ⟨_, z⟩ | ⟨z, _⟩
        · rw [hbr4] at z
          cases z
        · exact zbody_2 g2 z
    have hst : br4 = false → zMb f sz (P4, u.2) a m3 := fun hbr4 => by
      subst hbr4
      exact ⟨zMst_k hu.1 c2 hF3, by rw [hF3.2 4 (by decide) (by decide)]; exact hu.2⟩
    refine ⟨fun z0 => ?_, fun z0 => ?_⟩
    · have hs00 : s0 = 0 := (nI_eq (by omega) (by decide)).mp z0
      refine r_pad c2 (fun m4 P5 br5 e1 e2 e3 e4 e5 => ⟨rfl, ?_⟩)
      have hF4 : zFk m m4 := hF3.tr (zFk_tk e2 e3)
      cases hbr5 : br5 with
      | true =>
        subst hbr5
        refine m_74_bad (hb01 last) e1 (h2 m4 _ P5 ?_ e1 hF4.w)
        cases hbr4 : br4 with
        | true => exact hbadz hbr4
        | false =>
          rcases e5 rfl with z | z
          · rw [hbr4] at z
            cases z
          · rw [(hgood hbr4).2, if_neg (show ¬ s0 = 1 by omega)]
            by_cases h96 : 96 < u.2.1.length + x + 1
            · rw [if_pos h96]
            · rw [if_neg h96, zrawb_n (u := (P4, u.2)) z]
      | false =>
        subst hbr5
        obtain ⟨hbr4, hpd⟩ := e4 rfl
        obtain ⟨hbr3, hz⟩ := hgood hbr4
        rw [if_neg (show ¬ s0 = 1 by omega)] at hz
        obtain ⟨hst1, hst2⟩ := hst hbr4
        have hst4 : zMst f sz (P5, u.2) m4 := zMst_k (u := (P4, u.2)) hst1 e1 (zFk_tk e2 e3)
        have e4' : m4 68 4 = nI a := by rw [e3 4 (by decide) (by decide)]; exact hst2
        have hz2 : u.2.1.length + x + 1 ≤ 96 → zblk f (8 * sz) u a = (match zraw f (8 * sz) (x + 1) P5 u.2.1 with | none => none | some (P', o') => some (last, (P', o', u.2.2), a)) := by
          intro h96
          rw [if_neg (by omega)] at hz
          rw [hz, zrawb_s (u := (P4, u.2)) hpd (Nat.lt_irrefl _)]
          show (match (match zraw f (8 * sz) (u.2.1.length + x + 1 - u.2.1.length) P5 u.2.1 with | none => none | some (P', o) => some (((P', o, u.2.2) : zU), a)) with | none => none | some (u', a') => some (last, u', a')) = _
          rw [show u.2.1.length + x + 1 - u.2.1.length = x + 1 by omega]
          cases zraw f (8 * sz) (x + 1) P5 u.2.1 <;> rfl
        refine m_raw (m0 := m4) (hb01 last) (by omega) (fun m5 P6 o6 g1 g2 g3 g4 g5 g6 => ?_) (fun m5 P6 g1 g2 g3 => ?_) (x + 1) m4 P5 u.2.1 (by omega) e1 hst4.2.1 (fun _ _ _ => rfl) (fun _ _ _ _ => rfl) rfl
        · have hz3 := hz2 g1
          rw [g2] at hz3
          refine h1 m5 last _ a hz3 ⟨⟨g3, g4, zMg_of (g5 75 (by decide) (by decide)) hst4.2.2.1, hst4.2.2.2.1, by rw [g6 5 (by decide) (by decide) (by decide)]; exact hst4.2.2.2.2.1, by rw [g6 6 (by decide) (by decide) (by decide)]; exact hst4.2.2.2.2.2.1, by rw [g6 7 (by decide) (by decide) (by decide)]; exact hst4.2.2.2.2.2.2⟩, by rw [g6 4 (by decide) (by decide) (by decide)]; exact e4'⟩ (hF4.w.tr ⟨fun q q1 _ _ _ q5 => g5 q q1 q5, fun i _ _ _ _ i5 i6 i7 => g6 i i5 i6 i7⟩)
        · refine h2 m5 _ P6 ?_ g2 (hF4.w.tr g3.w)
          by_cases h96 : 96 < u.2.1.length + x + 1
          · rw [hz, if_pos h96]
          · rcases g1 with g1 | g1
            · exact absurd g1 h96
            · rw [hz2 (by omega), g1]
    · have hs01 : s0 = 1 := by
        rcases (show s0 = 0 ∨ s0 = 1 by omega) with q | q
        · exact absurd (by rw [q]; rfl) z0
        · exact q
      have hcl : min (u.2.1.length + x + 1) 96 = min (u.2.1.length + x + 1) 96 := rfl
      refine m_readCoded (u := (P4, u.2)) (a := a) (cap := min (u.2.1.length + x + 1) 96) c2 hst rfl (by omega) (show u.2.1.length ≤ _ by omega) (show _ ≤ u.2.1.length + 64 by omega) (fun m4 u4 a4 g0 g1 g2 g3 => ⟨rfl, hb01 last, ?_⟩) (fun m4 P4' g1 g2 g3 => ⟨rfl, hb01 last, ?_⟩)
      · obtain ⟨hbr3, hz⟩ := hgood g0
        rw [if_pos hs01] at hz
        by_cases h96 : 96 < u.2.1.length + x + 1
        · exfalso
          unfold zcoded at g1
          cases hzc : zcodes f (8 * sz) ((P4, u.2) : zU).1 with
          | none => rw [hzc] at g1; cases g1
          | some q =>
            obtain ⟨map, K, P6⟩ := q
            rw [hzc] at g1
            have g1 : (match zcmds f (8 * sz) K map (min (u.2.1.length + x + 1) 96) (u.2.1.length + x + 1) 64 (P6, u.2) with | none => none | some u' => some (u', a + 1)) = some (u4, a4) := g1
            rw [zcmds_over (by omega) 64 (P6, u.2) (show u.2.1.length ≤ _ by omega)] at g1
            cases g1
        · rw [if_neg h96] at hz
          rw [show min (u.2.1.length + x + 1) 96 = u.2.1.length + x + 1 by omega] at g1
          rw [g1] at hz
          exact h1 m4 last u4 a4 hz g2 (hF3.w.tr g3)
      · refine h2 m4 _ P4' ?_ g2 (hF3.w.tr g3)
        cases hbr4 : br4 with
        | true => exact hbadz hbr4
        | false =>
          obtain ⟨hbr3, hz⟩ := hgood hbr4
          rw [if_pos hs01] at hz
          by_cases h96 : 96 < u.2.1.length + x + 1
          · rw [hz, if_pos h96]
          · rw [if_neg h96] at hz
            rcases g1 with g1 | g1
            · rw [hbr4] at g1
              cases g1
            · rw [show min (u.2.1.length + x + 1) 96 = u.2.1.length + x + 1 by omega] at g1
              rw [hz, g1]
  -- the coded bit
  have k30 : ∀ (last : Bool) (m2 : zM) (P2 : Nat) (br2 : Bool), zSM f sz P2 br2 m2 → zFk m m2 → (br2 = true → zblk f (8 * sz) u a = none) → (br2 = false → zblk f (8 * sz) u a = zbody f (8 * sz) last P2 u a) →
      zR κ (d + 6 + 1) Y_Mo_readBlock 30 [some (.inr 68), some (.inl (nI last.toNat)), none, none, none] [] m2 Q := by
    intro last m2 P2 br2 b1 b2 b4 b5
    refine w_Mo_readBlock_30 (r_Mo_take (n := 1) (by decide) b1 (fun x P3 br3 m3 c1 c2 c3 c3' c4 => ⟨nI x, rfl, ?_⟩))
    have hx : x < 2 := c1
    have key : zR κ (d + 6 + 1) Y_Mo_readBlock 44 [some (.inr 68), some (.inl (nI last.toNat)), none, none, none] [.inl (nI x)] m3 Q := by
      refine k44 last m3 P2 x P3 br3 hx c2 (b2.tr (zFk_tk c3 c3')) (fun g => ?_) (fun g => ?_)
      · cases hov : br2 with
        | true => exact b4 hov
        | false =>
          rw [b5 hov]
          rcases c4.2 hov with ⟨_, z⟩ | ⟨z, _⟩
          · rw [g] at z
            cases z
          · exact zbody_1 z
      · have hov : br2 = false := by
          cases br2 with
          | false => rfl
          | true =>
            have := c4.1 rfl
            rw [g] at this
            cases this
        refine ⟨b5 hov, ?_⟩
        rcases c4.2 hov with ⟨z, _⟩ | ⟨_, z⟩
        · exact z
        · rw [g] at z
          cases z
    refine ⟨fun z => ?_, fun z => ?_⟩
    · have : x = 0 := by
        rcases (show x = 0 ∨ x = 1 by omega) with q | q
        · exact q
        · exact absurd (by rw [q]; rfl) z
      rw [this] at key
      exact key
    · have : x = 1 := (nI_eq (by omega) (by decide)).mp z
      rw [this] at key
      exact key
  refine w_Mo_readBlock_0 (r_Mo_take (n := 1) (by decide) hu.1.1 (fun v P1 br1 m1 a1 a2 a3 a3' a4 => ⟨nI v, rfl, fun z => ?_, fun z => ?_⟩))
  · have hv : v < 2 := a1
    have hv0 : ¬ v = 1 := fun q => z (by rw [q]; rfl)
    refine w_Mo_readBlock_14 ⟨fun _ => ?_, fun z => absurd rfl z⟩
    refine k30 false m1 P1 br1 a2 (zFk_tk a3 a3') (fun g => ?_) (fun g => ?_)
    · rcases a4.2 rfl with ⟨_, q⟩ | ⟨q, _⟩
      · rw [g] at q
        cases q
      · exact zblk_0 q
    · rcases a4.2 rfl with ⟨q, _⟩ | ⟨_, q⟩
      · exact zblk_1 q hv0
      · rw [g] at q
        cases q
  · have hv : v < 2 := a1
    have hv1 : v = 1 := (nI_eq (by omega) (by decide)).mp z
    refine w_Mo_readBlock_14 ⟨fun z => absurd z (by decide), fun _ => ?_⟩
    refine r_Mo_take (n := 1) (by decide) a2 (fun x P2 br2 m2 b1 b2 b3 b3' b4 => ⟨nI x, rfl, fun z2 => ?_, fun z2 => ?_⟩)
    · have hx : x < 2 := b1
      have hx0 : ¬ x = 1 := fun q => z2 (by rw [q]; rfl)
      refine k30 true m2 P2 br2 b2 ((zFk_tk a3 a3').tr (zFk_tk b3 b3')) (fun g => ?_) (fun g => ?_)
      · rcases a4.2 rfl with ⟨q, q2⟩ | ⟨q, _⟩
        · rcases b4.2 q2 with ⟨_, q3⟩ | ⟨q3, _⟩
          · rw [g] at q3
            cases q3
          · exact zblk_2 q hv1 q3
        · exact zblk_0 q
      · have hov1 : br1 = false := by
          cases br1 with
          | false => rfl
          | true =>
            have := b4.1 rfl
            rw [g] at this
            cases this
        rcases a4.2 rfl with ⟨q, q2⟩ | ⟨_, q⟩
        · rcases b4.2 hov1 with ⟨q3, _⟩ | ⟨_, q3⟩
          · exact zblk_3 q hv1 q3 hx0
          · rw [g] at q3
            cases q3
        · rw [hov1] at q
          cases q
    · have hx : x < 2 := b1
      have hx1 : x = 1 := (nI_eq (by omega) (by decide)).mp z2
      have hF2 : zFk m m2 := (zFk_tk a3 a3').tr (zFk_tk b3 b3')
      cases hbr2 : br2 with
      | false =>
        subst hbr2
        have hov1 : br1 = false := by
          cases br1 with
          | false => rfl
          | true =>
            have := b4.1 rfl
            cases this
        refine h1 m2 true (P2, u.2) a ?_ ⟨zMst_k hu.1 b2 hF2, by rw [hF2.2 4 (by decide) (by decide)]; exact hu.2⟩ hF2.w
        rcases a4.2 rfl with ⟨q, _⟩ | ⟨_, q⟩
        · rcases b4.2 hov1 with ⟨q3, _⟩ | ⟨_, q3⟩
          · exact zblk_4 q hv1 q3 hx1
          · cases q3
        · rw [hov1] at q
          cases q
      | true =>
        subst hbr2
        refine h2 m2 _ P2 ?_ b2 hF2.w
        rcases a4.2 rfl with ⟨q, q2⟩ | ⟨q, _⟩
        · rcases b4.2 q2 with ⟨_, q3⟩ | ⟨q3, _⟩
          · cases q3
          · exact zblk_2 q hv1 q3
        · exact zblk_0 q
end zMall
