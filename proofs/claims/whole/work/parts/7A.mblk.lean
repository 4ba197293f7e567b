/-! the reference reads coded blocks -/
section zMblk
variable {κ : zK} {d : Nat} {Q : Option zV → zM → Prop} {f : Nat → Int32} {sz P : Nat}
theorem zy_div : ∀ s : Fin 32, nI s.val / 8 = nI (s.val / 8) ∧ nI s.val - nI s.val / 8 * 8 = nI (s.val % 8) := by decide +kernel
theorem zmo_c : ∀ c : Fin 8, (4 ≤ c.val ∨ nI c.val + 2 = nI (zCB.getD c.val 0)) ∧ (c.val = 4 → zCB.getD c.val 0 = 6 ∧ zCT.getD c.val 0 = 2) ∧ (c.val = 5 → zCB.getD c.val 0 = 10 ∧ zCT.getD c.val 0 = 4) ∧ (c.val = 6 → zCB.getD c.val 0 = 26 ∧ zCT.getD c.val 0 = 5) ∧ (c.val = 7 → zCB.getD c.val 0 = 3) ∧ (c.val ≠ 4 → c.val ≠ 5 → c.val ≠ 6 → zCT.getD c.val 0 = 0) := by decide +kernel
theorem s_copyFrom {m : zM} {c : Nat} (hc : c < 8) (hQ : Q (some (.inl (nI (zCB.getD c 0)))) m) : zR κ d Y_Mo_copyFrom 0 [some (.inl (nI c))] [] m Q := by
  obtain ⟨l1, l2, l3, l4, l5, -⟩ := zmo_c ⟨c, hc⟩
  refine w_Mo_copyFrom_0 ⟨fun z => ⟨fun z4 => ⟨fun z5 => ⟨fun z6 => ?_, fun z6 => ?_⟩, fun z5 => ?_⟩, fun z4 => ?_⟩, fun z => ?_⟩
  · have z := (nI_leI (by decide) (by omega)).mp (show nI 4 ≤ nI c from z)
    have z4 : ¬ c = 4 := fun q => z4 (by rw [q]; rfl)
    have z5 : ¬ c = 5 := fun q => z5 (by rw [q]; rfl)
    have z6 : ¬ c = 6 := fun q => z6 (by rw [q]; rfl)
    have e : zCB.getD c 0 = 3 := l5 (show c = 7 by omega)
    rw [e] at hQ
    exact hQ
  · have e : zCB.getD c 0 = 26 := (l4 ((nI_eq (by omega) (by decide)).mp z6)).1
    rw [e] at hQ
    exact hQ
  · have e : zCB.getD c 0 = 10 := (l3 ((nI_eq (by omega) (by decide)).mp z5)).1
    rw [e] at hQ
    exact hQ
  · have e : zCB.getD c 0 = 6 := (l2 ((nI_eq (by omega) (by decide)).mp z4)).1
    rw [e] at hQ
    exact hQ
  · have e : nI c + 2 = nI (zCB.getD c 0) := by
      rcases l1 with q | q
      · exact absurd (show nI 4 ≤ nI c from nI_le q (by omega)) z
      · exact q
    rw [e]
    exact hQ
theorem s_copyBits {m : zM} {c : Nat} (hc : c < 8) (hQ : Q (some (.inl (nI (zCT.getD c 0)))) m) : zR κ d Y_Mo_copyBits 0 [some (.inl (nI c))] [] m Q := by
  obtain ⟨l1, l2, l3, l4, l5, l6⟩ := zmo_c ⟨c, hc⟩
  refine w_Mo_copyBits_0 ⟨fun z4 => ⟨fun z5 => ⟨fun z6 => ?_, fun z6 => ?_⟩, fun z5 => ?_⟩, fun z4 => ?_⟩
  · have e : zCT.getD c 0 = 0 := l6 (fun q => z4 (by have q : c = 4 := q; rw [q]; rfl)) (fun q => z5 (by have q : c = 5 := q; rw [q]; rfl)) (fun q => z6 (by have q : c = 6 := q; rw [q]; rfl))
    rw [e] at hQ
    exact hQ
  · have e : zCT.getD c 0 = 5 := (l4 ((nI_eq (by omega) (by decide)).mp z6)).2
    rw [e] at hQ
    exact hQ
  · have e : zCT.getD c 0 = 4 := (l3 ((nI_eq (by omega) (by decide)).mp z5)).2
    rw [e] at hQ
    exact hQ
  · have e : zCT.getD c 0 = 2 := (l2 ((nI_eq (by omega) (by decide)).mp z4)).2
    rw [e] at hQ
    exact hQ
abbrev zL55 (limit : Nat) (map : Bool) : List (Option zV) := [some (.inr 68), some (.inl (nI limit)), some (.inl (nI map.toNat)), none, none, none, none, none, none, none, none]
theorem zib_0 : ∀ i : Fin 4, (i.val < 2 → zIB.getD i.val 0 = i.val ∧ zIT.getD i.val 0 = 0) ∧ (i.val = 2 → zIB.getD i.val 0 = 2 ∧ zIT.getD i.val 0 = 2) ∧ (i.val = 3 → zIB.getD i.val 0 = 6 ∧ zIT.getD i.val 0 = 6) := by decide
theorem zrd_0 {N P : Nat} (h : P ≤ N) : zrd f N P 0 = some (0, P) := by
  unfold zrd
  rw [if_pos (by omega)] <;> rfl
set_option maxHeartbeats 2000000 in
theorem m_cmdloop {map : Bool} {K : zCo} {limit cap : Nat} {m0 : zM} {tot : Option zU} (hcap : cap = min limit 96) (hl : limit ≤ 300)
    (h1 : ∀ m' u', tot = some u' → zMst f sz u' m' → zGu m0 m' → Q none m')
    (h2 : ∀ m' P', tot = none → zSM f sz P' true m' → zGu m0 m' → Q none m') :
    ∀ (t : Nat) (m : zM) (u : zU), limit ≤ u.2.1.length + t → zMst f sz u m → zMk map K m → u.2.1.length ≤ cap → zGu m0 m → zcmds f (8 * sz) K map cap limit t u = tot →
    zR κ (d + 6) Y_Mo_readCoded 55 (zL55 limit map) [] m Q := by
  intro t
  -- the text is as long as it should be
  have kdone : ∀ (m : zM) (u : zU), zMst f sz u m → u.2.1.length ≤ cap → limit ≤ u.2.1.length → zGu m0 m → (if u.2.1.length = limit then some u else none) = tot → zR κ (d + 5 + 1) Y_Mo_readCoded 55 (zL55 limit map) [] m Q := by
    intro m u hu hoc hle hF ht
    rw [if_pos (by omega)] at ht
    refine w_Mo_readCoded_55 ⟨fun z => absurd (zbr_f hu.1) z, fun _ => ⟨fun _ => h1 m u ht.symm hu hF, fun z => ?_⟩⟩
    rw [hu.2.1.2.1] at z
    exact absurd (nI_le hle (by have := hu.2.1.1; omega)) z
  induction t with
  | zero =>
    intro m u hlt hu hK hoc hF ht
    exact kdone m u hu hoc (by omega) hF ht
  | succ t ih =>
    intro m u hlt hu hK hoc hF ht
    unfold zcmds at ht
    by_cases hle : limit ≤ u.2.1.length
    · rw [if_pos hle] at ht
      exact kdone m u hu hoc hle hF ht
    rw [if_neg hle] at ht
    have hnext : ∀ (m' : zM) (u' : zU), zcmd f (8 * sz) K map cap limit u = some u' → zMst f sz u' m' → zGu m m' → zR κ (d + 5 + 1) Y_Mo_readCoded 55 (zL55 limit map) [] m' Q := by
      intro m' u' g1 g2 g3
      rw [g1] at ht
      have hlen := zcmd_len (by omega) g1
      exact ih m' u' (by omega) g2 (zMk_u g3 hK) hlen.2 (hF.tr g3) ht
    have hfail : ∀ (m' : zM) (P' : Nat), zcmd f (8 * sz) K map cap limit u = none → zSM f sz P' true m' → zGu m m' → Q none m' := by
      intro m' P' g1 g2 g3
      rw [g1] at ht
      exact h2 m' P' ht.symm g2 (hF.tr g3)
    clear ht ih kdone h1 h2
    obtain ⟨P, o, r, b, w, e⟩ := u
    obtain ⟨hs, ho, hr, hp, hb, hw, he⟩ := hu
    have hs : zSM f sz P false m := hs
    have ho : zMd o m := ho
    have hr : zMg r m := hr
    have hp : zRp r := hp
    have hb : m 68 5 = nI b := hb
    have hw : m 68 6 = nI w := hw
    have he : m 68 7 = nI e := he
    have hoc : o.length ≤ cap := hoc
    have hle : ¬ limit ≤ o.length := hle
    have h96 := ho.1
    refine w_Mo_readCoded_55 ⟨fun z => absurd (zbr_f hs) z, fun _ => ⟨fun z => ?_, fun _ => ?_⟩⟩
    · rw [ho.2.1] at z
      exact absurd ((nI_leI (by omega) (by omega)).mp z) hle
    refine r_sym (B := 512) (S := 32) (nb := 5) (Or.inr (Or.inr (Or.inl ⟨rfl, rfl, rfl⟩))) hs (fun _ => hK.2.2.1) (fun y P1 br1 m1 a0 a1 a2 a3 a4 a5 => ⟨y, rfl, ?_⟩)
    obtain ⟨s, hs32, rfl⟩ := a0
    obtain ⟨y1, y2⟩ := zy_div ⟨s, hs32⟩
    have y1 : nI s / 8 = nI (s / 8) := y1
    have y2 : nI s - nI s / 8 * 8 = nI (s % 8) := y2
    rw [y2, y1]
    have hs4 : s / 8 < 4 := by omega
    have hs8 : s % 8 < 8 := by omega
    obtain ⟨t1, t2, t3, t4⟩ := tv0_nI ⟨s / 8, hs4⟩
    obtain ⟨t5, t6, t7, t8⟩ := tv2_nI ⟨s % 8, hs8⟩
    have t3 : zIT.getD (s / 8) 0 ≤ 6 := t3
    have t4 : zIB.getD (s / 8) 0 ≤ 6 := t4
    have t7 : zCT.getD (s % 8) 0 ≤ 5 := t7
    have t8 : zCB.getD (s % 8) 0 ≤ 26 := t8
    have hF1 : zGu m m1 := zGu_68 a2 a3
    -- behind the number of literals
    have k126 : ∀ (m2 : zM) (P2 : Nat) (br2 : Bool) (v : Nat), v < 64 → zSM f sz P2 br2 m2 → (∀ q, q ≠ 68 → m2 q = m q) → (∀ i, i ≠ 7 → i ≠ 8 → i ≠ 28 → m2 68 i = m 68 i) → (br2 = false → m2 68 7 = nI (e + 1) ∧ zrs f (8 * sz) K.2.2.1 P = some (s, P1) ∧ zrd f (8 * sz) P1 (zIT.getD (s / 8) 0) = some (v, P2)) → (br2 = true → zcmd f (8 * sz) K map cap limit (P, o, r, b, w, e) = none) →
        zR κ (d + 5 + 1) Y_Mo_readCoded 126 [some (.inr 68), some (.inl (nI limit)), some (.inl (nI map.toNat)), some (.inl (nI s)), some (.inl (nI (s / 8))), some (.inl (nI (s % 8))), none, none, none, none, none] [.inl (nI (zIB.getD (s / 8) 0 + v))] m2 Q := by
      intro m2 P2 br2 v hv b1 b2 b3 b4 b5
      have hF2 : zGu m m2 := zGu_68 b2 b3
      refine w_Mo_readCoded_126 (s_copyFrom hs8 ⟨_, rfl, s_copyBits hs8 ⟨_, rfl, r_Mo_take (by omega) b1 (fun x P3 br3 m3 c1 c2 c3 c4 c5 => ⟨_, rfl, ?_⟩)⟩⟩)
      have hx : x < 32 := Nat.lt_of_lt_of_le c1 (Nat.pow_le_pow_right (by decide) t7)
      have hF3 : zGu m m3 := hF2.tr (zGu_68 c3 (fun i _ i2 i3 => c4 i i2 i3))
      rw [nI_add]
      cases hbr3 : br3 with
      | true =>
        subst hbr3
        refine m_148_bad c2 (hfail m3 P3 ?_ c2 hF3)
        cases hbr2 : br2 with
        | true => exact b5 hbr2
        | false =>
          obtain ⟨g1, g2, g3⟩ := b4 hbr2
          unfold zcmd
          rw [g2]
          show (match zrd f (8 * sz) P1 (zIT.getD (s / 8) 0) with | none => none | some (v, P2) => _) = _
          rw [g3]
          show (match zrd f (8 * sz) P2 (zCT.getD (s % 8) 0) with | none => none | some (v, P2) => _) = _
          rcases c5.2 hbr2 with ⟨_, q⟩ | ⟨q, _⟩
          · cases q
          · rw [q]
      | false =>
        subst hbr3
        have hbr2 : br2 = false := by
          cases br2 with
          | false => rfl
          | true => exact absurd (c5.1 rfl) (by decide)
        obtain ⟨g1, g2, g3⟩ := b4 hbr2
        have g4 : zrd f (8 * sz) P2 (zCT.getD (s % 8) 0) = some (x, P3) := by
          rcases c5.2 hbr2 with ⟨q, _⟩ | ⟨_, q⟩
          · exact q
          · cases q
        have hz0 : zcmd f (8 * sz) K map cap limit (P, o, r, b, w, e) = (if cap < o.length + (zIB.getD (s / 8) 0 + v) then none else match zlits f (8 * sz) K map (zIB.getD (s / 8) 0 + v) P3 o with | none => none | some (P4, o1) => zaft f (8 * sz) K.2.2.2 cap limit (s % 8) (zCB.getD (s % 8) 0 + x) P4 o1 r b w (e + 1 + (zIB.getD (s / 8) 0 + v))) := by
          unfold zcmd
          rw [g2]
          show (match zrd f (8 * sz) P1 (zIT.getD (s / 8) 0) with | none => none | some (v, P2) => _) = _
          rw [g3]
          show (match zrd f (8 * sz) P2 (zCT.getD (s % 8) 0) with | none => none | some (v, P2) => _) = _
          rw [g4] <;> rfl
        have hD3 : zMd o m3 := zMd_of (by rw [c4 29 (by decide) (by decide)]; exact b3 29 (by decide) (by decide) (by decide)) (by rw [c3 84 (by decide)]; exact b2 84 (by decide)) ho
        refine m_lits (d := d + 4) hcap hl (by omega) (zIB.getD (s / 8) 0 + v) 0 m3 P3 o (e + 1) (by omega) c2 hD3 hoc (zMk_u hF3 hK) (by rw [c4 7 (by decide) (by decide)]; exact g1) ?_ ?_
        · intro m4 P4 o4 k1 k2 k3 k4 k5 k6 k7
          rw [if_neg (by omega), k2] at hz0
          have hz0 : zcmd f (8 * sz) K map cap limit (P, o, r, b, w, e) = zaft f (8 * sz) K.2.2.2 cap limit (s % 8) (zCB.getD (s % 8) 0 + x) P4 o4 r b w (e + 1 + (zIB.getD (s / 8) 0 + v)) := hz0
          have hlen := zlits_len _ _ _ k2
          have hF4 : zGu m m4 := hF3.tr ⟨fun q q1 _ q3 => k6 q q1 q3, fun i _ _ i3 i4 i5 i6 => k7 i i3 i4 i5 i6⟩
          have e75 : m4 75 = m 75 := by rw [k6 75 (by decide) (by decide), c3 75 (by decide)]; exact b2 75 (by decide)
          have e5 : m4 68 5 = nI b := by rw [k7 5 (by decide) (by decide) (by decide) (by decide), c4 5 (by decide) (by decide), b3 5 (by decide) (by decide) (by decide)]; exact hb
          have e6 : m4 68 6 = nI w := by rw [k7 6 (by decide) (by decide) (by decide) (by decide), c4 6 (by decide) (by decide), b3 6 (by decide) (by decide) (by decide)]; exact hw
          refine w_Mo_readCoded_243 ⟨fun z => absurd (zbr_f k3) z, fun _ => ⟨fun z => ?_, fun z => ?_⟩⟩
          · rw [k4.2.1] at z
            have z := (nI_leI (by omega) (by have := k4.1; omega)).mp z
            have hz1 : zaft f (8 * sz) K.2.2.2 cap limit (s % 8) (zCB.getD (s % 8) 0 + x) P4 o4 r b w (e + 1 + (zIB.getD (s / 8) 0 + v)) = some (P4, o4, r, b, w, e + 1 + (zIB.getD (s / 8) 0 + v)) := by
              unfold zaft
              rw [if_pos (by omega)]
            exact hnext m4 _ (hz0.trans hz1) ⟨k3, k4, zMg_of e75 hr, hp, e5, e6, k5⟩ hF4
          · rw [k4.2.1] at z
            have z : ¬ o4.length = limit := fun q => z (by rw [q]; exact Int32.le_refl _)
            refine m_copy (tot := zcmd f (8 * sz) K map cap limit (P, o, r, b, w, e)) hs8 hcap hl (by omega) k3 k4 (by omega) (zMg_of e75 hr) hp (zMk_u hF4 hK).2.2.2 e5 e6 k5 ?_ (fun m5 u5 q1 q2 q3 => ⟨rfl, hnext m5 u5 q1 q2 (hF4.tr q3)⟩) (fun m5 P5 q1 q2 q3 => ⟨rfl, w_Mo_readCoded_55 ⟨fun _ => hfail m5 P5 q1 q2 (hF4.tr q3), fun z => absurd z (zbr_t q2)⟩⟩)
            rw [hz0]
            unfold zaft
            rw [if_neg z] <;> rfl
        · intro m4 P4 k1 k2 k3
          refine hfail m4 P4 ?_ k2 (hF3.tr k3)
          rw [hz0]
          by_cases hq : cap < o.length + (zIB.getD (s / 8) 0 + v)
          · rw [if_pos hq]
          · rw [if_neg hq]
            rcases k1 with k1 | k1
            · exact absurd k1 hq
            · rw [k1]
    -- the number of literals
    have kt : ∀ (n : Nat), n ≤ 6 → zIT.getD (s / 8) 0 = n → zR κ (d + 5) Y_Mo_take 0 [some (.inr 68), some (.inl (nI n)), none, none] [] m1 (fun r m3 => ∃ y4 : Int32, r = some (.inl y4) ∧ zR κ (d + 5 + 1) Y_Mo_readCoded 126 [some (.inr 68), some (.inl (nI limit)), some (.inl (nI map.toNat)), some (.inl (nI s)), some (.inl (nI (s / 8))), some (.inl (nI (s % 8))), none, none, none, none, none] [.inl (nI (zIB.getD (s / 8) 0) + y4)] m3 Q) := by
      intro n hn6 hn
      refine r_Mo_take (by omega) a1 (fun v P2 br2 m2 b1 b2 b3 b4 b5 => ⟨nI v, rfl, ?_⟩)
      have hv : v < 64 := Nat.lt_of_lt_of_le b1 (Nat.pow_le_pow_right (by decide) hn6)
      rw [nI_add]
      refine k126 m2 P2 br2 v hv b2 (fun q hq => (b3 q hq).trans (a2 q hq)) (fun i i1 i2 i3 => (b4 i i2 i3).trans (a3 i i1 i2 i3)) (fun q => ?_) (fun q => ?_)
      · have hbr1 : br1 = false := by
          cases br1 with
          | false => rfl
          | true =>
            have := b5.1 rfl
            rw [q] at this
            cases this
        obtain ⟨-, c1, s', c2, c3, c4⟩ := a4 hbr1
        have es : s' = s := ((nI_eq (by omega) (by omega)).mp c3).symm
        subst es
        refine ⟨by rw [b4 7 (by decide) (by decide), c1, he, nI_1], c4, ?_⟩
        rw [hn]
        rcases b5.2 hbr1 with ⟨z, _⟩ | ⟨_, z⟩
        · exact z
        · rw [q] at z
          cases z
      · cases hbr1 : br1 with
        | true =>
          rcases a5 hbr1 with z | z
          · cases z
          · unfold zcmd
            rw [z]
        | false =>
          obtain ⟨-, c1, s', c2, c3, c4⟩ := a4 hbr1
          have es : s' = s := ((nI_eq (by omega) (by omega)).mp c3).symm
          subst es
          unfold zcmd
          rw [c4]
          show (match zrd f (8 * sz) P1 (zIT.getD (s' / 8) 0) with | none => none | some (v, P2) => _) = _
          rw [hn]
          rcases b5.2 hbr1 with ⟨_, z⟩ | ⟨z, _⟩
          · rw [q] at z
            cases z
          · rw [z]
    obtain ⟨i1, i2, i3⟩ := zib_0 ⟨s / 8, hs4⟩
    refine ⟨fun z => ⟨fun z2 => ?_, fun z2 => ?_⟩, fun z => ?_⟩
    · have z := (nI_leI (by decide) (by omega)).mp (show nI 2 ≤ nI (s / 8) from z)
      have z2 : ¬ s / 8 = 2 := fun q => z2 (by rw [q]; rfl)
      obtain ⟨j1, j2⟩ := i3 (show s / 8 = 3 by omega)
      have j1 : zIB.getD (s / 8) 0 = 6 := j1
      have := kt 6 (by decide) j2
      rw [j1] at this
      exact this
    · have z2 : s / 8 = 2 := (nI_eq (by omega) (by decide)).mp z2
      obtain ⟨j1, j2⟩ := i2 z2
      have j1 : zIB.getD (s / 8) 0 = 2 := j1
      have := kt 2 (by decide) j2
      rw [j1] at this
      exact this
    · have z : s / 8 < 2 := by
        rcases Nat.lt_or_ge (s / 8) 2 with q | q
        · exact q
        · exact absurd (show nI 2 ≤ nI (s / 8) from nI_le q (by omega)) z
      obtain ⟨j1, j2⟩ := i1 z
      have j1 : zIB.getD (s / 8) 0 = s / 8 := j1
      have j2 : zIT.getD (s / 8) 0 = 0 := j2
      have hP1 : P1 ≤ 8 * sz := a1.2.1
      have := k126 m1 P1 br1 0 (by decide) a1 a2 a3 (fun q => ?_) (fun q => ?_)
      · rw [j1, Nat.add_zero] at this
        exact this
      · obtain ⟨-, c1, s', c2, c3, c4⟩ := a4 q
        have es : s' = s := ((nI_eq (by omega) (by omega)).mp c3).symm
        subst es
        exact ⟨by rw [c1, he, nI_1], c4, by rw [j2]; exact zrd_0 hP1⟩
      · rcases a5 q with z | z
        · cases z
        · unfold zcmd
          rw [z]
theorem zMR_fq {B S B' S' : Nat} {m m' : zM} {l : List (Nat × Nat)} (hne : B' + S' ≤ B ∨ B + S ≤ B') (h : zFq B S m m') (hk : zMc B' S' l m) : zMc B' S' l m' := by
  obtain ⟨⟨L, ⟨w1, w2, w3⟩, hp, hso, hk⟩, hg⟩ := hk
  have e73 : ∀ s, s < S' → m' 73 (B' + s) = m 73 (B' + s) := fun s hs => (h.2.2 (B' + s) (by omega)).1
  have e74 : ∀ s, s < S' → m' 74 (B' + s) = m 74 (B' + s) := fun s hs => (h.2.2 (B' + s) (by omega)).2
  have hL : ∀ s ∈ L, s < S' := by
    intro s hs
    obtain ⟨p, hp', rfl⟩ := List.mem_map.mp (hp.mem_iff.mp hs)
    exact (w1 p hp').1
  refine ⟨⟨L, ⟨fun p hp' => ⟨(w1 p hp').1, (w1 p hp').2.1, by rw [e73 _ (w1 p hp').1]; exact (w1 p hp').2.2⟩, fun s hs hn => by rw [e73 s hs]; exact w2 s hs hn, w3⟩, hp, ?_, fun k hk' => ?_⟩, hg⟩
  · refine List.Pairwise.imp_of_mem (fun {a b} ha hb hab => ?_) hso
    show (m' 73 (B' + a)).toNatClampNeg * 256 + a < (m' 73 (B' + b)).toNatClampNeg * 256 + b
    rw [e73 a (hL a ha), e73 b (hL b hb)]
    exact hab
  · rw [e74 _ (hL _ (zget_mem hk')), hk k hk']
    exact zwI_congr (fun t ht => (e73 t (hL t ht)).symm) k hk'
/-- what the codes' reading leaves alone -/
def zFk (m m' : zM) : Prop := (∀ q, q ≠ 68 → q ≠ 73 → q ≠ 74 → m' q = m q) ∧ ∀ i, i ≠ 8 → i ≠ 28 → m' 68 i = m 68 i
theorem zFk.tr {m m' m'' : zM} (h : zFk m m') (h' : zFk m' m'') : zFk m m'' := ⟨fun q a b c => (h'.1 q a b c).trans (h.1 q a b c), fun i a b => (h'.2 i a b).trans (h.2 i a b)⟩
theorem zFq.k {B S : Nat} {m m' : zM} (h : zFq B S m m') : zFk m m' := ⟨h.1, h.2.1⟩
/-- one code of the reference -/
theorem r_code {B S nb : Nat} {m : zM} {br : Bool} (hb : zBase B S nb) (hs : zSM f sz P br m)
    (hQ : ∀ (m' : zM) (P' : Nat) (br' : Bool) (l : List (Nat × Nat)), zSM f sz P' br' m' → zFq B S m m' → (br' = false → br = false ∧ zrdCode f (8 * sz) S nb P = some (l, P') ∧ zMc B S l m') → (br' = true → br = true ∨ zrdCode f (8 * sz) S nb P = none) → Q none m') :
    zR κ (d + 2) Y_Mo_readCode 0 [some (.inr 68), some (.inl (nI B)), none, none, none, none] [] m Q := by
  refine s_readCode hb hs (fun m' P' br' a1 a2 a3 a4 => ?_)
  cases br' with
  | true => exact hQ m' P' true [] a1 a2 (fun z => by cases z) a4
  | false =>
    obtain ⟨b1, l, L, b2, b3⟩ := a3 rfl
    exact hQ m' P' false l a1 a2 (fun _ => ⟨b1, b2, ⟨L, b3⟩, zgood_of b2⟩) a4
set_option maxHeartbeats 2000000 in
theorem m_codes {m : zM} {map br : Bool} {limit : Nat} (hs : zSM f sz P br m)
    (h1 : ∀ (m' : zM) (K : zCo) (P' : Nat), br = false → zcd4 f (8 * sz) map P = some (K, P') → zSM f sz P' false m' → zMk map K m' → zFk m m' → zR κ (d + 6) Y_Mo_readCoded 55 (zL55 limit map) [] (zms m' 68 4 (m' 68 4 + 1)) Q)
    (h2 : ∀ (m' : zM) (P' : Nat), (br = true ∨ zcd4 f (8 * sz) map P = none) → zSM f sz P' true m' → zFk m m' → Q none (zms m' 68 4 (m' 68 4 + 1))) :
    zR κ (d + 6) Y_Mo_readCoded 14 [some (.inr 68), some (.inl (nI limit)), none, none, none, none, none, none, none, none, none] [.inl (nI map.toNat)] m Q := by
  -- behind the literals' codes
  have k31 : ∀ (m1 : zM) (P1 : Nat) (br1 : Bool) (la lb : List (Nat × Nat)), zSM f sz P1 br1 m1 → zFk m m1 → (br1 = false → br = false ∧ zMc 0 256 la m1 ∧ (map = true → zMc 256 256 lb m1) ∧ ∀ r, (match zrdCode f (8 * sz) 32 5 P1 with | none => none | some (lc, P4) => match zrdCode f (8 * sz) 14 4 P4 with | none => none | some (ld, P5) => some ((la, lb, lc, ld), P5)) = r → zcd4 f (8 * sz) map P = r) → (br1 = true → br = true ∨ zcd4 f (8 * sz) map P = none) →
      zR κ (d + 5 + 1) Y_Mo_readCoded 31 (zL55 limit map) [] m1 Q := by
    intro m1 P1 br1 la lb a1 a2 a3 a4
    refine w_Mo_readCoded_31 (r_code (B := 512) (S := 32) (nb := 5) (Or.inr (Or.inr (Or.inl ⟨rfl, rfl, rfl⟩))) a1 (fun m2 P2 br2 lc b1 b2 b3 b4 => ⟨rfl, ?_⟩))
    refine r_code (B := 768) (S := 14) (nb := 4) (Or.inr (Or.inr (Or.inr ⟨rfl, rfl, rfl⟩))) b1 (fun m3 P3 br3 ld c1 c2 c3 c4 => ⟨rfl, ?_⟩)
    have hF : zFk m m3 := (a2.tr b2.k).tr c2.k
    cases br3 with
    | true =>
      refine w_Mo_readCoded_55 ⟨fun _ => h2 m3 P3 ?_ c1 hF, fun z => absurd z (zbr_t (zSM_k c1 (by decide) (by decide) (by decide)))⟩
      cases hbr1 : br1 with
      | true => exact a4 hbr1
      | false =>
        obtain ⟨g1, g2, g3, g4⟩ := a3 hbr1
        right
        cases hbr2 : br2 with
        | true =>
          rcases b4 hbr2 with z | z
          · rw [hbr1] at z
            cases z
          · exact g4 _ (by rw [z])
        | false =>
          obtain ⟨-, e1, e2⟩ := b3 hbr2
          rcases c4 rfl with z | z
          · rw [hbr2] at z
            cases z
          · exact g4 _ (by rw [e1]; show (match zrdCode f (8 * sz) 14 4 P2 with | none => none | some (ld, P5) => some ((la, lb, lc, ld), P5)) = _; rw [z])
    | false =>
      obtain ⟨hbr2, f1, f2⟩ := c3 rfl
      obtain ⟨hbr1, e1, e2⟩ := b3 hbr2
      obtain ⟨g1, g2, g3, g4⟩ := a3 hbr1
      refine h1 m3 (la, lb, lc, ld) P3 g1 (g4 _ (by rw [e1]; show (match zrdCode f (8 * sz) 14 4 P2 with | none => none | some (ld, P5) => some ((la, lb, lc, ld), P5)) = _; rw [f1])) c1 ⟨zMR_fq (Or.inl (by decide)) c2 (zMR_fq (Or.inl (by decide)) b2 g2), fun hm => zMR_fq (Or.inl (by decide)) c2 (zMR_fq (Or.inl (by decide)) b2 (g3 hm)), zMR_fq (Or.inl (by decide)) c2 e2, f2⟩ hF
  refine w_Mo_readCoded_14 (r_code (B := 0) (S := 256) (nb := 8) (Or.inl ⟨rfl, rfl, rfl⟩) hs (fun m1 P1 br1 la a1 a2 a3 a4 => ⟨rfl, fun hm => ?_, fun hm => ?_⟩))
  · have hm : map = false := by
      cases map
      · rfl
      · exact absurd hm (by decide)
    subst hm
    refine k31 m1 P1 br1 la [] a1 a2.k (fun q => ?_) (fun q => ?_)
    · obtain ⟨e1, e2, e3⟩ := a3 q
      refine ⟨e1, e3, fun z => (by cases z), fun r hr => ?_⟩
      unfold zcd4
      rw [e2]
      exact hr
    · rcases a4 q with z | z
      · exact Or.inl z
      · right
        unfold zcd4
        rw [z]
  · have hm : map = true := by
      cases map
      · exact absurd rfl hm
      · rfl
    subst hm
    refine r_code (B := 256) (S := 256) (nb := 8) (Or.inr (Or.inl ⟨rfl, rfl, rfl⟩)) a1 (fun m2 P2 br2 lb b1 b2 b3 b4 => ⟨rfl, ?_⟩)
    refine k31 m2 P2 br2 la lb b1 (a2.k.tr b2.k) (fun q => ?_) (fun q => ?_)
    · obtain ⟨g1, g2, g3⟩ := b3 q
      obtain ⟨e1, e2, e3⟩ := a3 g1
      refine ⟨e1, zMR_fq (Or.inl (by decide)) b2 e3, fun _ => g3, fun r hr => ?_⟩
      unfold zcd4
      rw [e2]
      show (match (if true = true then zrdCode f (8 * sz) 256 8 P1 else some ([], P1)) with | none => none | some (lb, P3) => match zrdCode f (8 * sz) 32 5 P3 with | none => none | some (lc, P4) => match zrdCode f (8 * sz) 14 4 P4 with | none => none | some (ld, P5) => some ((la, lb, lc, ld), P5)) = r
      rw [if_pos rfl, g2]
      exact hr
    · rcases b4 q with z | z
      · rcases a4 z with z | z
        · exact Or.inl z
        · right
          unfold zcd4
          rw [z]
      · cases hbr1 : br1 with
        | true =>
          rcases a4 hbr1 with z | z
          · exact Or.inl z
          · right
            unfold zcd4
            rw [z]
        | false =>
          obtain ⟨e1, e2, e3⟩ := a3 hbr1
          right
          unfold zcd4
          rw [e2]
          show (match (if true = true then zrdCode f (8 * sz) 256 8 P1 else some ([], P1)) with | none => none | some (lb, P3) => match zrdCode f (8 * sz) 32 5 P3 with | none => none | some (lc, P4) => match zrdCode f (8 * sz) 14 4 P4 with | none => none | some (ld, P5) => some ((la, lb, lc, ld), P5)) = none
          rw [if_pos rfl, z]
end zMblk
