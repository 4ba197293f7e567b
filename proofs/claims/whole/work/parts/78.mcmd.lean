/-! the reference reads literals, copies and words -/
section zMcmd
variable {κ : zK} {d : Nat} {Q : Option zV → zM → Prop} {f : Nat → Int32} {sz P : Nat}
def zMd (o : List Nat) (m : zM) : Prop := o.length ≤ 96 ∧ m 68 29 = nI o.length ∧ (∀ i, i < o.length → m 84 i = nI (o.getD i 0)) ∧ ∀ x ∈ o, x < 256
def zMg (r : zRg) (m : zM) : Prop := m 75 0 = nI r.1 ∧ m 75 1 = nI r.2.1 ∧ m 75 2 = nI r.2.2.1 ∧ m 75 3 = nI r.2.2.2
def zMc (B S : Nat) (l : List (Nat × Nat)) (m : zM) : Prop := (∃ L, zMR B S m l L) ∧ zGood S l
def zMk (map : Bool) (K : zCo) (m : zM) : Prop := zMc 0 256 K.1 m ∧ (map = true → zMc 256 256 K.2.1 m) ∧ zMc 512 32 K.2.2.1 m ∧ zMc 768 14 K.2.2.2 m
def zGu (m m' : zM) : Prop := (∀ q, q ≠ 68 → q ≠ 75 → q ≠ 84 → m' q = m q) ∧ ∀ i, i ≠ 5 → i ≠ 6 → i ≠ 7 → i ≠ 8 → i ≠ 28 → i ≠ 29 → m' 68 i = m 68 i
theorem zGu.rf {m : zM} : zGu m m := ⟨fun _ _ _ _ => rfl, fun _ _ _ _ _ _ _ => rfl⟩
theorem zGu.tr {m m' m'' : zM} (h : zGu m m') (h' : zGu m' m'') : zGu m m'' := ⟨fun q a b c => (h'.1 q a b c).trans (h.1 q a b c), fun i a b c e g k => (h'.2 i a b c e g k).trans (h.2 i a b c e g k)⟩
theorem zGu_68 {m m' : zM} (h : ∀ q, q ≠ 68 → m' q = m q) (h2 : ∀ i, i ≠ 7 → i ≠ 8 → i ≠ 28 → m' 68 i = m 68 i) : zGu m m' := ⟨fun q a _ _ => h q a, fun i _ _ c e g _ => h2 i c e g⟩
theorem zMc_of {B S : Nat} {l : List (Nat × Nat)} {m m' : zM} (h3 : m' 73 = m 73) (h4 : m' 74 = m 74) (h : zMc B S l m) : zMc B S l m' := by
  unfold zMc zMR zMw at h ⊢
  rw [h3, h4]
  exact h
theorem zMk_of {map : Bool} {K : zCo} {m m' : zM} (h3 : m' 73 = m 73) (h4 : m' 74 = m 74) (h : zMk map K m) : zMk map K m' :=
  ⟨zMc_of h3 h4 h.1, fun e => zMc_of h3 h4 (h.2.1 e), zMc_of h3 h4 h.2.2.1, zMc_of h3 h4 h.2.2.2⟩
theorem zMk_u {map : Bool} {K : zCo} {m m' : zM} (h : zGu m m') (hk : zMk map K m) : zMk map K m' := zMk_of (h.1 73 (by decide) (by decide) (by decide)) (h.1 74 (by decide) (by decide) (by decide)) hk
theorem zMd_of {o : List Nat} {m m' : zM} (h29 : m' 68 29 = m 68 29) (h84 : m' 84 = m 84) (h : zMd o m) : zMd o m' := by
  unfold zMd
  rw [h29, h84]
  exact h
theorem zMg_of {r : zRg} {m m' : zM} (h75 : m' 75 = m 75) (h : zMg r m) : zMg r m' := by
  unfold zMg
  rw [h75]
  exact h
theorem zbr_t {P : Nat} {m : zM} (h : zSM f sz P true m) : ¬ m 68 28 = 0 := by
  rw [h.2.2.2.2.2.2]
  decide
theorem zbr_f {P : Nat} {m : zM} (h : zSM f sz P false m) : m 68 28 = 0 := h.2.2.2.2.2.2
theorem zMd_add {o : List Nat} {m : zM} {x : Nat} (h : zMd o m) (hx : x < 256) (hl : o.length < 96) : zMd (o ++ [x]) (zms (zms m 84 o.length (nI x)) 68 29 (nI (o.length + 1))) := by
  obtain ⟨h1, h2, h3, h4⟩ := h
  have e : (o ++ [x]).length = o.length + 1 := by rw [List.length_append, List.length_singleton]
  refine ⟨by omega, by rw [zms_ss, e], fun i hi => ?_, fun y hy => ?_⟩
  · rw [zms_ne (by decide)]
    rcases Nat.lt_or_ge i o.length with q | q
    · rw [zms_nk (by omega), zgd_left _ _ _ q]
      exact h3 i q
    · have ei : i = o.length := by omega
      subst ei
      rw [zms_ss, zgd_right _ _ _ (Nat.le_refl _), Nat.sub_self] <;> rfl
  · rcases List.mem_append.mp hy with hy | hy
    · exact h4 y hy
    · rw [List.mem_singleton] at hy
      rw [hy]
      exact hx
/-- make, where the stream is sound -/
theorem r_make {o : List Nat} {m : zM} {x limit : Nat} (hs : zSM f sz P false m) (h : zMd o m) (hx : x < 256) (hl : limit ≤ 300)
    (h1 : o.length < 96 → o.length < limit → ∀ m', zSM f sz P false m' → zMd (o ++ [x]) m' → (∀ q, q ≠ 68 → q ≠ 84 → m' q = m q) → (∀ i, i ≠ 29 → m' 68 i = m 68 i) → Q none m')
    (h2 : (96 ≤ o.length ∨ limit ≤ o.length) → ∀ m', zSM f sz P true m' → (∀ q, q ≠ 68 → m' q = m q) → (∀ i, i ≠ 28 → m' 68 i = m 68 i) → Q none m') : zR κ d Y_Mo_make 0 [some (.inr 68), some (.inl (nI x)), some (.inl (nI limit))] [] m Q := by
  have h96 := h.1
  have hb : (96 ≤ o.length ∨ limit ≤ o.length) → Q none (zms m 68 28 1) := fun z => h2 z _ (zSM_br hs) (fun q hq => zms_ne hq) (fun i hi => zms_nk hi)
  refine w_Mo_make_0 ⟨fun z => ?_, fun z => ⟨fun z2 => ?_, fun z2 => ?_⟩⟩
  · rw [h.2.1] at z
    exact hb (Or.inl ((nI_leI (by decide) (by omega)).mp (show nI 96 ≤ nI o.length from z)))
  · rw [h.2.1] at z z2 ⊢
    have z2 := (nI_ltI (by omega) (by omega)).mp z2
    have z1 : o.length < 96 := by
      rcases Nat.lt_or_ge o.length 96 with q | q
      · exact q
      · exact absurd (show nI 96 ≤ nI o.length from nI_le q (by omega)) z
    rw [nI_clamp (by omega), nI_1]
    refine ⟨vp_in_nI z1 (by decide), h1 z1 z2 _ ?_ (zMd_add h hx z1) (fun q q1 q2 => by rw [zms_ne q1, zms_ne q2]) (fun i hi => by rw [zms_nk hi, zms_ne (by decide)])⟩
    exact zSM_of hs (by rw [zms_ne (by decide), zms_ne (by decide)]) (by rw [zms_nk (by decide), zms_ne (by decide)]) (by rw [zms_nk (by decide), zms_ne (by decide)]) (by rw [zms_nk (by decide), zms_ne (by decide)])
  · rw [h.2.1] at z2
    refine hb (Or.inr ?_)
    rcases Nat.lt_or_ge o.length limit with q | q
    · exact absurd (nI_lt q (by omega)) z2
    · exact q
/-- make, behind the stream's end -/
theorem r_make_bad {m : zM} {j : Nat} {x y : Int32} (hs : zSM f sz P true m) (h : m 68 29 = nI j) (hj : j ≤ 96) (hQ : ∀ m', zSM f sz P true m' → zGu m m' → Q none m') : zR κ d Y_Mo_make 0 [some (.inr 68), some (.inl x), some (.inl y)] [] m Q := by
  have hb : Q none (zms m 68 28 1) := hQ _ (zSM_br hs) ⟨fun q hq _ _ => zms_ne hq, fun i _ _ _ _ g _ => zms_nk g⟩
  refine w_Mo_make_0 ⟨fun _ => hb, fun z => ⟨fun _ => ?_, fun _ => hb⟩⟩
  rw [h] at z ⊢
  have z1 : j < 96 := by
    rcases Nat.lt_or_ge j 96 with q | q
    · exact q
    · exact absurd (show nI 96 ≤ nI j from nI_le q (by omega)) z
  rw [nI_clamp (by omega)]
  refine ⟨vp_in_nI z1 (by decide), hQ _ (zSM_of hs (by rw [zms_ne (by decide), zms_ne (by decide)]) (by rw [zms_nk (by decide), zms_ne (by decide)]) (by rw [zms_nk (by decide), zms_ne (by decide)]) (by rw [zms_nk (by decide), zms_ne (by decide)])) ⟨fun q q1 q2 q3 => by rw [zms_ne q1, zms_ne q3], fun i _ _ _ _ _ g => by rw [zms_nk g, zms_ne (by decide)]⟩⟩
abbrev zL243 (limit : Nat) (map : Bool) (x3 x4 : Int32) (c n mm : Nat) (x8 : Int32) : List (Option zV) := [some (.inr 68), some (.inl (nI limit)), some (.inl (nI map.toNat)), some (.inl x3), some (.inl x4), some (.inl (nI c)), some (.inl (nI n)), some (.inl (nI mm)), some (.inl x8), none, none]
theorem m_243_bad {m : zM} {limit : Nat} {map : Bool} {x3 x4 x8 : Int32} {c n mm : Nat} (hs : zSM f sz P true m) (hQ : Q none m) : zR κ (d + 1) Y_Mo_readCoded 243 (zL243 limit map x3 x4 c n mm x8) [] m Q :=
  w_Mo_readCoded_243 ⟨fun _ => w_Mo_readCoded_55 ⟨fun _ => hQ, fun z => absurd z (zbr_t hs)⟩, fun z => absurd z (zbr_t hs)⟩
theorem m_148_bad {m : zM} {limit : Nat} {map : Bool} {x3 x4 x8 : Int32} {c n mm : Nat} (hs : zSM f sz P true m) (hQ : Q none m) : zR κ (d + 1) Y_Mo_readCoded 148 (zL243 limit map x3 x4 c n mm x8) [] m Q :=
  w_Mo_readCoded_148 ⟨fun _ => m_243_bad hs hQ, fun _ => ⟨fun _ => m_243_bad hs hQ, fun z => absurd z (zbr_t hs)⟩⟩
set_option maxHeartbeats 1000000 in
theorem m_lits {map : Bool} {K : zCo} {n limit cap c mm : Nat} {x3 x4 : Int32} (hcap : cap = min limit 96) (hl : limit ≤ 300) (hn : n ≤ 200) : ∀ (r k : Nat) (m : zM) (P : Nat) (o : List Nat) (e : Nat), k + r = n → zSM f sz P false m → zMd o m → o.length ≤ cap → zMk map K m → m 68 7 = nI e →
    (∀ m' P' o', o.length + r ≤ cap → zlits f (8 * sz) K map r P o = some (P', o') → zSM f sz P' false m' → zMd o' m' → m' 68 7 = nI (e + r) → (∀ q, q ≠ 68 → q ≠ 84 → m' q = m q) → (∀ i, i ≠ 7 → i ≠ 8 → i ≠ 28 → i ≠ 29 → m' 68 i = m 68 i) → zR κ (d + 2) Y_Mo_readCoded 243 (zL243 limit map x3 x4 c n mm (nI n)) [] m' Q) →
    (∀ m' P', (cap < o.length + r ∨ zlits f (8 * sz) K map r P o = none) → zSM f sz P' true m' → zGu m m' → Q none m') →
    zR κ (d + 2) Y_Mo_readCoded 148 (zL243 limit map x3 x4 c n mm (nI k)) [] m Q := by
  intro r
  induction r with
  | zero =>
    intro k m P o e hk hs ho hoc _ he h1 _
    have ek : k = n := by omega
    subst ek
    exact w_Mo_readCoded_148 ⟨fun _ => h1 m P o hoc rfl hs ho he (fun _ _ _ => rfl) (fun _ _ _ _ _ => rfl), fun z => absurd (Int32.le_refl _) z⟩
  | succ r ih =>
    intro k m P o e hk hs ho hoc hK he h1 h2
    -- the symbol is read with the code of this place
    have k225 : ∀ (x9 : Int32), zR κ (d + 1 + 1) Y_Mo_readCoded 225 [some (.inr 68), some (.inl (nI limit)), some (.inl (nI map.toNat)), some (.inl x3), some (.inl x4), some (.inl (nI c)), some (.inl (nI n)), some (.inl (nI mm)), some (.inl (nI k)), some (.inl x9), none] [.inl (if (map && zsml o) = true then 256 else 0), .inr 68] m Q := by
      intro x9
      obtain ⟨B, hB, hBe, hM⟩ : ∃ B, zBase B 256 8 ∧ (if (map && zsml o) = true then (256 : Int32) else 0) = nI B ∧ zMc B 256 (if (map && zsml o) = true then K.2.1 else K.1) m := by
        cases hc2 : (map && zsml o) with
        | false => exact ⟨0, Or.inl ⟨rfl, rfl, rfl⟩, rfl, hK.1⟩
        | true => exact ⟨256, Or.inr (Or.inl ⟨rfl, rfl, rfl⟩), rfl, hK.2.1 (by
            cases map
            · cases hc2
            · rfl)⟩
      rw [hBe]
      refine w_Mo_readCoded_225 (r_sym hB hs (fun _ => hM) (fun y P1 br1 m1 a0 a1 a2 a3 a4 a5 => ⟨y, rfl, ?_⟩))
      have e29 : m1 68 29 = m 68 29 := a3 29 (by decide) (by decide) (by decide)
      cases br1 with
      | true =>
        have hz : zlits f (8 * sz) K map (r + 1) P o = none := by
          rcases a5 rfl with z | z
          · cases z
          · rw [zlits, z]
        refine r_make_bad a1 (by rw [e29]; exact ho.2.1) ho.1 (fun m2 b1 b2 => ⟨rfl, m_148_bad b1 (h2 m2 P1 (Or.inr hz) b1 ((zGu_68 a2 a3).tr b2))⟩)
      | false =>
        obtain ⟨-, c1, s, c2, c3, c4⟩ := a4 rfl
        subst c3
        have hz : zlits f (8 * sz) K map (r + 1) P o = zlits f (8 * sz) K map r P1 (o ++ [s]) := by
          rw [zlits, c4]
        refine r_make a1 (zMd_of e29 (a2 84 (by decide)) ho) c2 hl (fun z1 z2 m2 b1 b2 b3 b4 => ⟨rfl, ?_⟩) (fun z m2 b1 b2 b3 => ⟨rfl, ?_⟩)
        · rw [nI_1]
          have hF2 : zGu m m2 := ⟨fun q q1 q2 q3 => by rw [b3 q q1 q3, a2 q q1], fun i i1 i2 i3 i4 i5 i6 => by rw [b4 i i6]; exact a3 i i3 i4 i5⟩
          have elen : (o ++ [s]).length = o.length + 1 := by rw [List.length_append, List.length_singleton]
          refine ih (k + 1) m2 P1 (o ++ [s]) (e + 1) (by omega) b1 b2 (by omega) (zMk_u hF2 hK) (by rw [b4 7 (by decide), c1, he, nI_1]) ?_ ?_
          · intro m' P' o' g1 g2 g3 g4 g5 g6 g7
            refine h1 m' P' o' (by omega) (by rw [hz]; exact g2) g3 g4 (by rw [g5]; congr 1; omega) (fun q q1 q2 => by rw [g6 q q1 q2, b3 q q1 q2, a2 q q1]) (fun i i1 i2 i3 i4 => by rw [g7 i i1 i2 i3 i4, b4 i i4]; exact a3 i i1 i2 i3)
          · intro m' P' g1 g2 g3
            refine h2 m' P' ?_ g2 (hF2.tr g3)
            rcases g1 with g1 | g1
            · left; omega
            · right; rw [hz]; exact g1
        · exact m_148_bad b1 (h2 m2 P1 (Or.inl (by omega)) b1 ⟨fun q q1 _ _ => by rw [b2 q q1, a2 q q1], fun i _ _ i3 i4 i5 _ => by rw [b3 i i5]; exact a3 i i3 i4 i5⟩)
    refine w_Mo_readCoded_148 ⟨fun z => absurd z (nI_ge (by omega) (by omega)), fun _ => ⟨fun z => absurd (zbr_f hs) z, fun _ => ⟨fun hm => ?_, fun hm => ?_⟩⟩⟩
    · have hm : map = false := by
        cases map
        · rfl
        · exact absurd hm (by decide)
      have := k225 0
      rw [hm] at this ⊢
      exact this
    · have hm : map = true := by
        cases map
        · exact absurd rfl hm
        · rfl
      rw [ho.2.1]
      refine ⟨fun z => ?_, fun z => ?_⟩
      · have hz0 : o.length = 0 := by
          have := (nI_leI (by have := ho.1; omega) (by decide)).mp (show nI o.length ≤ nI 0 from z)
          omega
        have hsm : zsml o = false := decide_eq_false (by omega)
        have := k225 0
        rw [hsm, Bool.and_false] at this
        exact this
      · have h96 := ho.1
        have hpos : 0 < o.length := by
          rcases Nat.eq_zero_or_pos o.length with q | q
          · exact absurd (show nI o.length ≤ nI 0 from by rw [q]; exact Int32.le_refl _) z
          · exact q
        have e1 : nI o.length - 1 = nI (o.length - 1) := nI_sub (b := 1) hpos
        rw [e1, nI_clamp (by omega), ho.2.2.1 _ (by omega)]
        have hin : vp_in (nI (o.length - 1)) 96 := vp_in_nI (by omega) (by decide)
        have hx : o.getD (o.length - 1) 0 < 256 := ho.2.2.2 _ (zget_mem (by omega))
        refine ⟨hin, fun z1 => ?_, fun z1 => ⟨hin, fun z2 => ?_, fun z2 => ?_⟩⟩
        · have z1 := (nI_ltI (by omega) (by decide)).mp (show nI (o.getD (o.length - 1) 0) < nI 97 from z1)
          have hsm : zsml o = false := decide_eq_false (by omega)
          have := k225 0
          rw [hsm, Bool.and_false] at this
          exact this
        · have z2 := (nI_ltI (by decide) (by omega)).mp (show nI 122 < nI (o.getD (o.length - 1) 0) from z2)
          have hsm : zsml o = false := decide_eq_false (by omega)
          have := k225 0
          rw [hsm, Bool.and_false] at this
          exact this
        · have z1 : ¬ o.getD (o.length - 1) 0 < 97 := fun q => z1 (nI_lt q (by decide))
          have z2 : ¬ 122 < o.getD (o.length - 1) 0 := fun q => z2 (nI_lt q (by omega))
          have hsm : zsml o = true := decide_eq_true (by omega)
          have := k225 1
          rw [hsm, hm] at this
          rw [hm]
          exact this
theorem zlow : ∀ s : Fin 14, 6 ≤ s.val → (nI s.val - 5 = nI (s.val - 5) ∧ (s.val ≤ 7 → zDB.getD s.val 0 = s.val - 5 ∧ zDT.getD s.val 0 = 0) ∧ (s.val = 8 → zDB.getD s.val 0 = 3) ∧ (9 ≤ s.val → ((1 : Int32) <<< ((nI s.val - 7) &&& 31)) + 1 = nI (zDB.getD s.val 0)) ∧ (8 ≤ s.val → nI s.val - 7 = nI (zDT.getD s.val 0))) := by decide +kernel
theorem s_lowest {m : zM} {s : Nat} (hs : s < 14) (h6 : 6 ≤ s) (hQ : Q (some (.inl (nI (zDB.getD s 0)))) m) : zR κ d Y_Mo_lowest 0 [some (.inl (nI s))] [] m Q := by
  obtain ⟨l1, l2, l3, l4, l5⟩ := zlow ⟨s, hs⟩ h6
  refine w_Mo_lowest_0 ⟨fun z => ⟨fun z2 => ?_, fun z2 => ?_⟩, fun z => ?_⟩
  · have z := (nI_ltI (by decide) (by omega)).mp (show nI 7 < nI s from z)
    have z2 : ¬ s = 8 := fun q => z2 (by rw [q]; rfl)
    have l4 : ((1 : Int32) <<< ((nI s - 7) &&& 31)) + 1 = nI (zDB.getD s 0) := l4 (show 9 ≤ s by omega)
    rw [l4]
    exact hQ
  · have z2 : s = 8 := (nI_eq (by omega) (by decide)).mp z2
    have l3 : zDB.getD s 0 = 3 := l3 z2
    rw [l3] at hQ
    exact hQ
  · have z : s ≤ 7 := by
      rcases Nat.lt_or_ge 7 s with q | q
      · exact absurd (show nI 7 < nI s from nI_lt q (by omega)) z
      · exact q
    have l2 : zDB.getD s 0 = s - 5 := (l2 z).1
    have l1 : nI s - 5 = nI (s - 5) := l1
    rw [l2] at hQ
    rw [l1]
    exact hQ
theorem s_extra {m : zM} {s : Nat} (hs : s < 14) (h6 : 6 ≤ s) (hQ : Q (some (.inl (nI (zDT.getD s 0)))) m) : zR κ d Y_Mo_extra 0 [some (.inl (nI s))] [] m Q := by
  obtain ⟨l1, l2, l3, l4, l5⟩ := zlow ⟨s, hs⟩ h6
  refine w_Mo_extra_0 ⟨fun z => ?_, fun z => ?_⟩
  · have z := (nI_ltI (by decide) (by omega)).mp (show nI 7 < nI s from z)
    have l5 : nI s - 7 = nI (zDT.getD s 0) := l5 (show 8 ≤ s by omega)
    rw [l5]
    exact hQ
  · have z : s ≤ 7 := by
      rcases Nat.lt_or_ge 7 s with q | q
      · exact absurd (show nI 7 < nI s from nI_lt q (by omega)) z
      · exact q
    have l2 : zDT.getD s 0 = 0 := (l2 z).2
    rw [l2] at hQ
    exact hQ
def zdsp (f : Nat → Int32) (N s : Nat) (r : zRg) (P : Nat) : Option (Nat × Nat) := if 6 ≤ s then (match zrd f N P (zDT.getD s 0) with | none => none | some (v, P2) => some (zDB.getD s 0 + v, P2)) else some (zrg r s, P)
/-- the reference's distance of a symbol -/
theorem m_readDistance {m : zM} {r : zRg} {s : Nat} {br : Bool} (hs14 : s < 14) (hs : zSM f sz P br m) (hr : br = false → zMg r m) (hp : zRp r)
    (hQ : ∀ (y : Int32) (P' : Nat) (br' : Bool) (m' : zM), zSM f sz P' br' m' → (∀ q, q ≠ 68 → m' q = m q) → (∀ i, i ≠ 8 → i ≠ 28 → m' 68 i = m 68 i) →
      (br' = false → br = false ∧ ∃ dd, dd ≤ 201 ∧ y = nI dd ∧ zdsp f (8 * sz) s r P = some (dd, P')) →
      (br' = true → br = true ∨ zdsp f (8 * sz) s r P = none) → Q (some (.inl y)) m') :
    zR κ (d + 1) Y_Mo_readDistance 0 [some (.inr 68), some (.inl (nI s))] [] m Q := by
  have hsame : ∀ y : Int32, s < 6 → (br = false → y = nI (zrg r s)) → Q (some (.inl y)) m := by
    intro y h6 hy
    refine hQ y P br m hs (fun _ _ => rfl) (fun _ _ _ => rfl) (fun e => ⟨e, _, zrg_le hp, hy e, ?_⟩) (fun e => Or.inl e)
    unfold zdsp
    rw [if_neg (by omega)]
  refine w_Mo_readDistance_0 ⟨fun z => ⟨fun z4 => ⟨fun z5 => ?_, fun z5 => ?_⟩, fun z4 => ?_⟩, fun z => ?_⟩
  · have z := (nI_leI (by decide) (by omega)).mp (show nI 4 ≤ nI s from z)
    have z4 : ¬ s = 4 := fun q => z4 (by rw [q]; rfl)
    have z5 : ¬ s = 5 := fun q => z5 (by rw [q]; rfl)
    have h6 : 6 ≤ s := by omega
    obtain ⟨t1, t2, t3, t4, t5⟩ := tv4_nI ⟨s, hs14⟩
    have t3 : zDT.getD s 0 ≤ 6 := t3
    have t4 : zDB.getD s 0 ≤ 65 := t4
    refine s_lowest hs14 h6 ⟨_, rfl, s_extra hs14 h6 ⟨_, rfl, r_Mo_take (by omega) hs (fun v P1 br1 m1 a1 a2 a3 a4 a5 => ⟨_, rfl, ?_⟩)⟩⟩
    have hv : v < 64 := Nat.lt_of_lt_of_le a1 (Nat.pow_le_pow_right (by decide) t3)
    rw [nI_add]
    refine hQ _ P1 br1 m1 a2 a3 a4 (fun e => ?_) (fun e => ?_)
    · cases hbr : br with
      | true =>
        have := a5.1 hbr
        rw [e] at this
        cases this
      | false =>
        rcases a5.2 hbr with ⟨g, _⟩ | ⟨_, g⟩
        · refine ⟨rfl, zDB.getD s 0 + v, by omega, rfl, ?_⟩
          unfold zdsp
          rw [if_pos h6, g]
        · rw [e] at g
          cases g
    · cases hbr : br with
      | true => exact Or.inl rfl
      | false =>
        rcases a5.2 hbr with ⟨_, g⟩ | ⟨g, _⟩
        · rw [e] at g
          cases g
        · right
          unfold zdsp
          rw [if_pos h6, g]
  · have z5 : s = 5 := (nI_eq (by omega) (by decide)).mp z5
    refine hsame _ (by omega) (fun e => ?_)
    rw [(hr e).1, z5, nI_1] <;> rfl
  · have z4 : s = 4 := (nI_eq (by omega) (by decide)).mp z4
    refine hsame _ (by omega) (fun e => ?_)
    rw [(hr e).1, z4]
    exact nI_sub hp.1.1
  · have z : s < 4 := by
      rcases Nat.lt_or_ge s 4 with q | q
      · exact q
      · exact absurd (show nI 4 ≤ nI s from nI_le q (by omega)) z
    refine ⟨vp_in_nI z (by decide), ?_⟩
    rw [nI_clamp (by omega)]
    refine hsame _ (by omega) (fun e => ?_)
    obtain ⟨r0, r1, r2, r3⟩ := hr e
    rcases (show s = 0 ∨ s = 1 ∨ s = 2 ∨ s = 3 by omega) with rfl | rfl | rfl | rfl
    · exact r0
    · exact r1
    · exact r2
    · exact r3
end zMcmd
