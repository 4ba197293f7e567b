/-! the class reads literals, distances, copies and words -/
section zUread
variable {κ : zK} {d : Nat} {Q : Option zV → zM → Prop} {f : Nat → Int32} {sz P : Nat}
def zDr (o : List Nat) (m : zM) : Prop := o.length ≤ 96 ∧ m 42 1 = nI o.length ∧ (∀ i, i < o.length → m 43 i = nI (o.getD i 0)) ∧ ∀ x ∈ o, x < 256
def zRp (r : zRg) : Prop := (1 ≤ r.1 ∧ r.1 ≤ 200) ∧ (1 ≤ r.2.1 ∧ r.2.1 ≤ 200) ∧ (1 ≤ r.2.2.1 ∧ r.2.2.1 ≤ 200) ∧ (1 ≤ r.2.2.2 ∧ r.2.2.2 ≤ 200)
def zRr (r : zRg) (m : zM) : Prop := m 46 0 = nI r.1 ∧ m 46 1 = nI r.2.1 ∧ m 46 2 = nI r.2.2.1 ∧ m 46 3 = nI r.2.2.2
def zCk (c S : Nat) (l : List (Nat × Nat)) (m : zM) : Prop := (∃ L, zRdy c S m l L) ∧ zGood S l
def zKs (map : Bool) (K : zCo) (m : zM) : Prop := zCk 48 256 K.1 m ∧ (map = true → zCk 53 256 K.2.1 m) ∧ zCk 58 32 K.2.2.1 m ∧ zCk 63 14 K.2.2.2 m
def zFu (m m' : zM) : Prop := ∀ q, q ≠ 3 → q ≠ 42 → q ≠ 43 → q ≠ 44 → q ≠ 46 → m' q = m q
theorem zFu.rf {m : zM} : zFu m m := fun _ _ _ _ _ _ => rfl
theorem zFu.tr {m m' m'' : zM} (h : zFu m m') (h' : zFu m' m'') : zFu m m'' := fun q a b c e g => (h' q a b c e g).trans (h q a b c e g)
theorem zFu_3 {m m' : zM} (h : ∀ q, q ≠ 3 → m' q = m q) : zFu m m' := fun q a _ _ _ _ => h q a
theorem zFu_s {m : zM} {p k : Nat} {x : Int32} (hp : p = 3 ∨ p = 42 ∨ p = 43 ∨ p = 44 ∨ p = 46) : zFu m (zms m p k x) := fun q a b c e g => zms_ne (by omega)
theorem zCk_of {c S : Nat} {l : List (Nat × Nat)} {m m' : zM} (hc : 48 ≤ c) (h : zFu m m') (hk : zCk c S l m) : zCk c S l m' := by
  obtain ⟨⟨L, h1⟩, h2⟩ := hk
  exact ⟨⟨L, zRdy_of (h c (by omega) (by omega) (by omega) (by omega) (by omega)) (h (c + 1) (by omega) (by omega) (by omega) (by omega) (by omega)) (h (c + 3) (by omega) (by omega) (by omega) (by omega) (by omega)) (h (c + 4) (by omega) (by omega) (by omega) (by omega) (by omega)) h1⟩, h2⟩
theorem zKs_of {map : Bool} {K : zCo} {m m' : zM} (h : zFu m m') (hk : zKs map K m) : zKs map K m' :=
  ⟨zCk_of (by decide) h hk.1, fun e => zCk_of (by decide) h (hk.2.1 e), zCk_of (by decide) h hk.2.2.1, zCk_of (by decide) h hk.2.2.2⟩
theorem zDr_of {o : List Nat} {m m' : zM} (h42 : m' 42 = m 42) (h43 : m' 43 = m 43) (h : zDr o m) : zDr o m' := by
  unfold zDr
  rw [h42, h43]
  exact h
theorem zRr_of {r : zRg} {m m' : zM} (h46 : m' 46 = m 46) (h : zRr r m) : zRr r m' := by
  unfold zRr
  rw [h46]
  exact h
theorem zDr_add {o : List Nat} {m : zM} {x : Nat} (h : zDr o m) (hx : x < 256) (hl : o.length < 96) : zDr (o ++ [x]) (zms (zms m 43 o.length (nI x)) 42 1 (nI (o.length + 1))) := by
  obtain ⟨h1, h2, h3, h4⟩ := h
  have e : (o ++ [x]).length = o.length + 1 := by rw [List.length_append, List.length_singleton]
  refine ⟨by omega, by rw [zms_ss, e], fun i hi => ?_, fun y hy => ?_⟩
  · rw [zms_ne (by decide)]
    rcases Nat.lt_or_ge i o.length with q | q
    · rw [zms_nk (by omega), zgd_left _ _ _ q]
      exact h3 i q
    · have ei : i = o.length := by omega
      subst ei
      rw [zms_ss, zgd_right _ _ _ (Nat.le_refl _), Nat.sub_self] <;> rfl
  · rcases List.mem_append.mp hy with hy | hy
    · exact h4 y hy
    · rw [List.mem_singleton] at hy
      rw [hy]
      exact hx
theorem r_add {o : List Nat} {m : zM} {x : Nat} (h : zDr o m) (hx : x < 256) (hl : o.length < 96) (hQ : ∀ m', zDr (o ++ [x]) m' → (∀ q, q ≠ 42 → q ≠ 43 → m' q = m q) → Q (some (.inl 1)) m') : zR κ (d + 1) Y_Text_add 0 [some (.inr 42), some (.inl (nI x))] [] m Q :=
  s_Text_add is_Text_42 h.2.1 h.1 (fun _ _ => hQ _ (zDr_add h hx hl) (fun q a b => by rw [zms_ne a, zms_ne b])) (fun z => absurd ⟨bI_nI hx, hl⟩ z)
/-- an add whose number is not known -/
theorem r_add_any {m : zM} {j : Nat} {x : Int32} (h : m 42 1 = nI j) (hj : j ≤ 96) (hQ : ∀ (y : Int32) (m' : zM) (j' : Nat), m' 42 1 = nI j' → j' ≤ 96 → (∀ q, q ≠ 42 → q ≠ 43 → m' q = m q) → Q (some (.inl y)) m') : zR κ (d + 1) Y_Text_add 0 [some (.inr 42), some (.inl x)] [] m Q :=
  s_Text_add is_Text_42 h hj (fun _ h2 => hQ 1 _ (j + 1) zms_ss h2 (fun q a b => by rw [zms_ne a, zms_ne b])) (fun _ => hQ 0 m j h hj (fun _ _ _ => rfl))
theorem r_get {o : List Nat} {m : zM} {j : Nat} (h : zDr o m) (hj : j < o.length) (hQ : Q (some (.inl (nI (o.getD j 0)))) m) : zR κ d Y_Text_get 0 [some (.inr 42), some (.inl (nI j))] [] m Q := by
  obtain ⟨h1, h2, h3, h4⟩ := h
  refine w_Text_get_0 is_Text_42 ⟨fun z => absurd z (nI_pos (by omega)), fun _ => ⟨fun z => ?_, fun _ => ⟨vp_in_nI (by omega) (by decide), ?_⟩⟩⟩
  · rw [h2] at z
    exact absurd z (nI_ge hj (by omega))
  · rw [nI_clamp (by omega), h3 j hj]
    exact hQ
theorem r_small {o : List Nat} {m : zM} (h : zDr o m) (hQ : Q (some (.inl (if zsml o = true then 1 else 0))) m) : zR κ (d + 1) Y_Text_followsSmallLetter 0 [some (.inr 42), some (.inl (nI o.length)), none] [] m Q := by
  refine w_Text_followsSmallLetter_0 is_Text_42 ?_
  cases hl : o.length with
  | zero =>
    have hs : zsml o = false := decide_eq_false (by omega)
    rw [hs] at hQ
    refine w_Text_get_0 is_Text_42 ⟨fun _ => ⟨_, rfl, fun _ => hQ, fun z => absurd (by decide) z⟩, fun z => absurd (by decide) z⟩
  | succ j =>
    rw [nI_pred]
    refine r_get h (by omega) ⟨_, rfl, ?_⟩
    have hx : o.getD j 0 < 256 := h.2.2.2 _ (zget_mem (by omega))
    have e1 : o.length - 1 = j := by omega
    unfold zsml at hQ
    rw [e1] at hQ
    refine ⟨fun z => ?_, fun z => ⟨fun w => ?_, fun w => ?_⟩⟩
    · have z := (nI_ltI (by omega) (by decide)).mp (show nI (o.getD j 0) < nI 97 from z)
      rw [decide_eq_false (by omega)] at hQ
      exact hQ
    · have w := (nI_ltI (by decide) (by omega)).mp (show nI 122 < nI (o.getD j 0) from w)
      rw [decide_eq_false (by omega)] at hQ
      exact hQ
    · have z : ¬ o.getD j 0 < 97 := fun q => z (nI_lt q (by decide))
      have w : ¬ 122 < o.getD j 0 := fun q => w (nI_lt q (by omega))
      rw [decide_eq_true (by omega)] at hQ
      exact hQ
theorem r_small_any {m : zM} {j : Nat} (h : m 42 1 = nI j) (hj : j ≤ 96) (hQ : ∀ y : Int32, Q (some (.inl y)) m) : zR κ (d + 1) Y_Text_followsSmallLetter 0 [some (.inr 42), some (.inl (nI j)), none] [] m Q := by
  refine w_Text_followsSmallLetter_0 is_Text_42 ?_
  have hend : ∀ y2 : Int32, ((y2 < 97 → Q (some (.inl 0)) m) ∧ (¬ y2 < 97 → ((122 < y2 → Q (some (.inl 0)) m) ∧ (¬ 122 < y2 → Q (some (.inl 1)) m)))) := fun y2 => ⟨fun _ => hQ 0, fun _ => ⟨fun _ => hQ 0, fun _ => hQ 1⟩⟩
  cases j with
  | zero => exact w_Text_get_0 is_Text_42 ⟨fun _ => ⟨_, rfl, hend _⟩, fun z => absurd (by decide) z⟩
  | succ j =>
    rw [nI_pred]
    refine w_Text_get_0 is_Text_42 ⟨fun z => absurd z (nI_pos (by omega)), fun _ => ⟨fun z => ?_, fun _ => ⟨vp_in_nI (by omega) (by decide), ⟨_, rfl, hend _⟩⟩⟩⟩
    rw [h] at z
    exact absurd z (nI_ge (by omega) (by omega))
def zlc (b : Bool) : Nat := if b = true then 53 else 48
theorem zlc_code (b : Bool) : is_Code (zlc b) 256 := by
  cases b
  · exact is_Code_48
  · exact is_Code_53
theorem zlc_ck {map b : Bool} {K : zCo} {m : zM} (h : zKs map K m) (hb : b = true → map = true) : zCk (zlc b) 256 (if b = true then K.2.1 else K.1) m := by
  cases b
  · exact h.1
  · exact h.2.1 (hb rfl)
theorem r_litAt {o : List Nat} {m : zM} {map : Bool} (h : zDr o m) (hQ : Q (some (.inr (zlc (map && zsml o)))) m) : zR κ (d + 2) Y_Codes_literalAt 0 [some (.inr 47), some (.inr 42), some (.inl (nI o.length)), some (.inl (nI map.toNat))] [] m Q := by
  refine w_Codes_literalAt_0 is_Codes_47 is_Text_42 ⟨fun z => ?_, fun z => r_small h ⟨_, rfl, fun w => ?_, fun w => ?_⟩⟩
  · cases map
    · exact hQ
    · exact absurd z (by decide)
  · cases map
    · exact absurd rfl z
    · cases hz : zsml o with
      | false => rw [hz] at hQ; exact hQ
      | true => rw [hz] at w; exact absurd w (by decide)
  · cases map
    · exact absurd rfl z
    · cases hz : zsml o with
      | false => rw [hz] at w; exact absurd rfl w
      | true => rw [hz] at hQ; exact hQ
theorem r_litAt_any {m : zM} {j : Nat} {map : Bool} (h : m 42 1 = nI j) (hj : j ≤ 96) (hQ : ∀ b : Bool, (b = true → map = true) → Q (some (.inr (zlc b))) m) : zR κ (d + 2) Y_Codes_literalAt 0 [some (.inr 47), some (.inr 42), some (.inl (nI j)), some (.inl (nI map.toNat))] [] m Q := by
  refine w_Codes_literalAt_0 is_Codes_47 is_Text_42 ⟨fun _ => hQ false (fun z => by cases z), fun z => r_small_any h hj (fun y => ⟨_, rfl, fun _ => hQ false (fun z => by cases z), fun _ => hQ true (fun _ => ?_)⟩)⟩
  cases map
  · exact absurd rfl z
  · rfl
theorem zlc_at (b : Bool) : ∃ fs, shT[zlc b]? = some (.inr (1, fs)) := ⟨_, (zlc_code b).1⟩
theorem zov_t {P : Nat} {m : zM} (h : zS f sz P true m) : ¬ m 3 3 = 0 := by
  rw [h.2.2.2.2.2.2]
  decide
theorem zov_f {P : Nat} {m : zM} (h : zS f sz P false m) : m 3 3 = 0 := h.2.2.2.2.2.2
theorem s_lits_bad {map : Bool} {K : zCo} {n : Nat} {x3 x4 x5 x6 x8 : Int32} (hn : n ≤ 200) : ∀ (r k : Nat) (m : zM) (P j : Nat), k + r = n → zS f sz P true m → m 42 1 = nI j → j ≤ 96 → zKs map K m → (∀ m' P', zS f sz P' true m' → zFu m m' → Q (some (.inl 0)) m') →
    zR κ (d + 3) Y_Unpacker_readCommand 104 [some (.inr 41), some (.inr 3), some (.inl (nI map.toNat)), some (.inl x3), some (.inl x4), some (.inl x5), some (.inl x6), some (.inl (nI n)), some (.inl x8), some (.inl (nI k))] [] m Q := by
  intro r
  induction r with
  | zero =>
    intro k m P j hk hs _ _ _ hQ
    refine w_Unpacker_readCommand_104 ⟨fun _ => ⟨fun z => ⟨fun _ => hQ m P hs zFu.rf, fun w => absurd w z⟩, fun z => absurd z (zov_t hs)⟩, fun z => absurd (nI_le (by omega) (by omega)) z⟩
  | succ r ih =>
    intro k m P j hk hs hj hj96 hK hQ
    refine w_Unpacker_readCommand_104 ⟨fun z => absurd z (nI_ge (by omega) (by omega)), fun _ => ?_⟩
    rw [hj]
    refine r_litAt_any hj hj96 (fun b hb => ⟨zlc b, rfl, zlc_at b, ?_⟩)
    obtain ⟨⟨L, hL⟩, hg⟩ := zlc_ck hK hb
    refine r_word (zlc_code b) (by cases b <;> decide) (by decide) hL hg hs (fun y P' ov' m1 _ a2 a3 a4 _ => ⟨y, rfl, ?_⟩)
    rw [a4 rfl] at a2
    refine r_add_any (by rw [a3 42 (by decide)]; exact hj) hj96 (fun y2 m2 j2 b1 b2 b3 => ⟨y2, rfl, ?_⟩)
    have hF : zFu m (zms m2 44 3 (m2 44 3 + 1)) := fun q q1 q2 q3 q4 q5 => by rw [zms_ne q4, b3 q q2 q3, a3 q q1]
    rw [nI_1]
    refine ih (k + 1) _ P' j2 (by omega) (zS_of a2 (by rw [zms_ne (by decide)]; exact b3 3 (by decide) (by decide)) (by rw [zms_ne (by decide)]; exact b3 4 (by decide) (by decide))) (by rw [zms_ne (by decide)]; exact b1) b2 (zKs_of hF hK) (fun m' P2 c1 c2 => hQ m' P2 c1 (hF.tr c2))
theorem s_lits {map : Bool} {K : zCo} {n : Nat} {x3 x4 x5 x6 x8 : Int32} (hn : n ≤ 200) : ∀ (r k : Nat) (m : zM) (P : Nat) (o : List Nat) (e : Nat), k + r = n → zS f sz P false m → zDr o m → o.length + r ≤ 96 → zKs map K m → m 44 3 = nI e →
    (∀ m' P' o', zlits f (8 * sz) K map r P o = some (P', o') → zS f sz P' false m' → zDr o' m' → m' 44 3 = nI (e + r) → (∀ q, q ≠ 3 → q ≠ 42 → q ≠ 43 → q ≠ 44 → m' q = m q) → (∀ i, i ≠ 3 → m' 44 i = m 44 i) → zR κ (d + 3) Y_Unpacker_readCommand 104 [some (.inr 41), some (.inr 3), some (.inl (nI map.toNat)), some (.inl x3), some (.inl x4), some (.inl x5), some (.inl x6), some (.inl (nI n)), some (.inl x8), some (.inl (nI n))] [] m' Q) →
    (∀ m' P', zlits f (8 * sz) K map r P o = none → zS f sz P' true m' → zFu m m' → Q (some (.inl 0)) m') →
    zR κ (d + 3) Y_Unpacker_readCommand 104 [some (.inr 41), some (.inr 3), some (.inl (nI map.toNat)), some (.inl x3), some (.inl x4), some (.inl x5), some (.inl x6), some (.inl (nI n)), some (.inl x8), some (.inl (nI k))] [] m Q := by
  intro r
  induction r with
  | zero =>
    intro k m P o e hk hs ho _ _ he h1 _
    rw [show k = n by omega]
    exact h1 m P o rfl hs ho he (fun _ _ _ _ _ => rfl) (fun _ _ => rfl)
  | succ r ih =>
    intro k m P o e hk hs ho ho96 hK he h1 h2
    refine w_Unpacker_readCommand_104 ⟨fun z => absurd z (nI_ge (by omega) (by omega)), fun _ => ?_⟩
    rw [ho.2.1]
    refine r_litAt ho ⟨_, rfl, zlc_at _, ?_⟩
    have hb : (map && zsml o) = true → map = true := fun z => by
      cases map
      · cases z
      · rfl
    obtain ⟨⟨L, hL⟩, hg⟩ := zlc_ck hK hb
    refine r_word (zlc_code _) (by cases (map && zsml o) <;> decide) (by decide) hL hg hs (fun y P' ov' m1 _ a2 a3 _ a5 => ⟨y, rfl, ?_⟩)
    rcases a5 rfl with ⟨s, c1, c2, c3, c4⟩ | ⟨c1, c2⟩
    · subst c2
      subst c4
      have hz : zlits f (8 * sz) K map (r + 1) P o = zlits f (8 * sz) K map r P' (o ++ [s]) := by
        rw [zlits, c3]
      rw [hz] at h1 h2
      refine r_add (zDr_of (a3 42 (by decide)) (a3 43 (by decide)) ho) c1 (by omega) (fun m2 b1 b2 => ⟨1, rfl, ?_⟩)
      have hF : zFu m (zms m2 44 3 (m2 44 3 + 1)) := fun q q1 q2 q3 q4 q5 => by rw [zms_ne q4, b2 q q2 q3, a3 q q1]
      have e44 : m2 44 = m 44 := by rw [b2 44 (by decide) (by decide), a3 44 (by decide)]
      rw [nI_1]
      refine ih (k + 1) _ P' (o ++ [s]) (e + 1) (by omega) (zS_of a2 (by rw [zms_ne (by decide)]; exact b2 3 (by decide) (by decide)) (by rw [zms_ne (by decide)]; exact b2 4 (by decide) (by decide))) (zDr_of (zms_ne (by decide)) (zms_ne (by decide)) b1) (by rw [List.length_append, List.length_singleton]; omega) (zKs_of hF hK) (by rw [zms_ss, e44, he, nI_1]) ?_ ?_
      · intro m' P2 o2 g1 g2 g3 g4 g5 g6
        refine h1 m' P2 o2 g1 g2 g3 (by rw [g4]; congr 1; omega) (fun q q1 q2 q3 q4 => ?_) (fun i hi => ?_)
        · rw [g5 q q1 q2 q3 q4, zms_ne q4, b2 q q2 q3, a3 q q1]
        · rw [g6 i hi, zms_nk hi, e44]
      · exact fun m' P2 g1 g2 g3 => h2 m' P2 g1 g2 (hF.tr g3)
    · subst c2
      have hz : zlits f (8 * sz) K map (r + 1) P o = none := by
        rw [zlits, c1]
      refine r_add_any (by rw [a3 42 (by decide)]; exact ho.2.1) ho.1 (fun y2 m2 j2 b1 b2 b3 => ⟨y2, rfl, ?_⟩)
      have hF : zFu m (zms m2 44 3 (m2 44 3 + 1)) := fun q q1 q2 q3 q4 q5 => by rw [zms_ne q4, b3 q q2 q3, a3 q q1]
      rw [nI_1]
      exact s_lits_bad hn r (k + 1) _ P' j2 (by omega) (zS_of a2 (by rw [zms_ne (by decide)]; exact b3 3 (by decide) (by decide)) (by rw [zms_ne (by decide)]; exact b3 4 (by decide) (by decide))) (by rw [zms_ne (by decide)]; exact b1) b2 (zKs_of hF hK) (fun m' P2 g1 g2 => h2 m' P2 hz g1 (hF.tr g2))
/-- the ring remembers -/
theorem s_remember {c : Nat} {m : zM} {x : Int32} (hc : is_Ring c) (hQ : ∀ m', (∀ q, q ≠ c + 1 → m' q = m q) → m' (c + 1) 0 = x → m' (c + 1) 1 = m (c + 1) 0 → m' (c + 1) 2 = m (c + 1) 1 → m' (c + 1) 3 = m (c + 1) 2 → Q none m') : zR κ d Y_Ring_remember 0 [some (.inr c), some (.inl x), none] [] m Q := by
  refine w_Ring_remember_0 hc (w_Ring_remember_2 hc ⟨fun z => absurd z (by decide), fun _ => ⟨by unfold vp_in; decide, by unfold vp_in; decide, ?_⟩⟩)
  refine w_Ring_remember_2 hc ⟨fun z => absurd z (by decide), fun _ => ⟨by unfold vp_in; decide, by unfold vp_in; decide, ?_⟩⟩
  refine w_Ring_remember_2 hc ⟨fun z => absurd z (by decide), fun _ => ⟨by unfold vp_in; decide, by unfold vp_in; decide, ?_⟩⟩
  refine w_Ring_remember_2 hc ⟨fun _ => ?_, fun z => absurd (by decide) z⟩
  refine hQ _ (fun q hq => by rw [zms_ne hq, zms_ne hq, zms_ne hq, zms_ne hq]) zms_ss ?_ ?_ ?_
  · rw [zms_nk (by decide)]
    exact zms_ss.trans ((zms_nk (by decide)).trans (zms_nk (by decide)))
  · rw [zms_nk (by decide), zms_nk (by decide)]
    exact zms_ss.trans (zms_nk (by decide))
  · rw [zms_nk (by decide), zms_nk (by decide), zms_nk (by decide)]
    exact zms_ss
theorem s_distOf {m : zM} {r : zRg} {s : Nat} (hr : zRr r m) (hp : zRp r) (hs : s < 6) (hQ : Q (some (.inl (nI (zrg r s)))) m) : zR κ d Y_Ring_distanceOf 0 [some (.inr 45), some (.inl (nI s))] [] m Q := by
  obtain ⟨r0, r1, r2, r3⟩ := hr
  refine w_Ring_distanceOf_0 is_Ring_45 ?_
  rcases (show s = 0 ∨ s = 1 ∨ s = 2 ∨ s = 3 ∨ s = 4 ∨ s = 5 by omega) with rfl | rfl | rfl | rfl | rfl | rfl
  · exact ⟨fun _ => ⟨fun _ => ⟨fun z => absurd z (by decide), fun _ => ⟨fun z => absurd z (by decide), fun _ => ⟨by unfold vp_in; decide, by
      show Q (some (.inl (m 46 0))) m
      rw [r0]
      exact hQ⟩⟩⟩, fun z => absurd z (by decide)⟩, fun z => absurd z (by decide)⟩
  · exact ⟨fun _ => ⟨fun _ => ⟨fun z => absurd z (by decide), fun _ => ⟨fun z => absurd z (by decide), fun _ => ⟨by unfold vp_in; decide, by
      show Q (some (.inl (m 46 1))) m
      rw [r1]
      exact hQ⟩⟩⟩, fun z => absurd z (by decide)⟩, fun z => absurd z (by decide)⟩
  · exact ⟨fun _ => ⟨fun _ => ⟨fun z => absurd z (by decide), fun _ => ⟨fun z => absurd z (by decide), fun _ => ⟨by unfold vp_in; decide, by
      show Q (some (.inl (m 46 2))) m
      rw [r2]
      exact hQ⟩⟩⟩, fun z => absurd z (by decide)⟩, fun z => absurd z (by decide)⟩
  · exact ⟨fun _ => ⟨fun _ => ⟨fun z => absurd z (by decide), fun _ => ⟨fun z => absurd z (by decide), fun _ => ⟨by unfold vp_in; decide, by
      show Q (some (.inl (m 46 3))) m
      rw [r3]
      exact hQ⟩⟩⟩, fun z => absurd z (by decide)⟩, fun z => absurd z (by decide)⟩
  · refine ⟨fun z => absurd rfl z, fun _ => ?_⟩
    show Q (some (.inl (m 46 0 - nI 1))) m
    rw [r0, nI_sub hp.1.1]
    exact hQ
  · refine ⟨fun _ => ⟨fun z => absurd rfl z, fun _ => ?_⟩, fun z => absurd z (by decide)⟩
    show Q (some (.inl (m 46 0 + nI 1))) m
    rw [r0, nI_add]
    exact hQ
theorem s_distOf_any {m : zM} {x : Int32} (hQ : ∀ y : Int32, Q (some (.inl y)) m) (hx : x = -1 ∨ ∃ s, s < 14 ∧ x = nI s) : zR κ d Y_Ring_distanceOf 0 [some (.inr 45), some (.inl x)] [] m Q := by
  refine w_Ring_distanceOf_0 is_Ring_45 ⟨fun _ => ⟨fun _ => ⟨fun _ => hQ _, fun z => ⟨fun _ => hQ _, fun w => ⟨?_, hQ _⟩⟩⟩, fun _ => hQ _⟩, fun _ => hQ _⟩
  rcases hx with rfl | ⟨s, hs, rfl⟩
  · exact absurd (by decide) z
  · refine vp_in_nI ?_ (by decide)
    rcases Nat.lt_or_ge s 4 with q | q
    · exact q
    · exact absurd (show nI 4 ≤ nI s from nI_le q (by omega)) w
theorem tv4_nI : ∀ s : Fin 14, tv_4.getD s.val 0 = nI (zDB.getD s.val 0) ∧ tv_5.getD s.val 0 = nI (zDT.getD s.val 0) ∧ zDT.getD s.val 0 ≤ 6 ∧ zDB.getD s.val 0 ≤ 65 ∧ (6 ≤ s.val → 1 ≤ zDB.getD s.val 0) := by decide +kernel
theorem zrg_le {r : zRg} {s : Nat} (h : zRp r) : zrg r s ≤ 201 := by
  obtain ⟨⟨a1, a2⟩, ⟨b1, b2⟩, ⟨c1, c2⟩, d1, d2⟩ := h
  unfold zrg
  repeat' split
  all_goals omega
theorem s_dist72 {m : zM} {x2 x3 s0 : Int32} (h1 : (x3 = 0 ∨ m 42 1 < s0) → Q (some (.inl s0)) m) (h2 : ¬ x3 = 0 → ¬ m 42 1 < s0 → ∀ m', (∀ q, q ≠ 46 → m' q = m q) → m' 46 0 = s0 → m' 46 1 = m 46 0 → m' 46 2 = m 46 1 → m' 46 3 = m 46 2 → Q (some (.inl s0)) m') : zR κ (d + 1) Y_Unpacker_readDistance 72 [some (.inr 41), some (.inr 3), some (.inl x2), some (.inl x3), none] [.inl s0] m Q :=
  w_Unpacker_readDistance_72 ⟨fun z => h1 (Or.inl z), fun z => ⟨fun w => h1 (Or.inr w), fun w => s_remember is_Ring_45 (fun m' a1 a2 a3 a4 a5 => ⟨rfl, h2 z w m' a1 a2 a3 a4 a5⟩)⟩⟩
set_option maxHeartbeats 1000000 in
theorem s_readDistance {m : zM} {o : List Nat} {r : zRg} {ld : List (Nat × Nat)} {c e : Nat} (hc : c < 8) (hs : zS f sz P false m) (ho : m 42 1 = nI o.length) (ho96 : o.length ≤ 96) (hr : zRr r m) (hp : zRp r) (hk : zCk 63 14 ld m) (he : m 44 3 = nI e)
    (h1 : ∀ m' s dd P' e', zdst f (8 * sz) ld c r P e = some (s, dd, P', e') → dd ≤ 201 → zS f sz P' false m' → m' 44 3 = nI e' → (∀ i, i ≠ 3 → m' 44 i = m 44 i) → (∀ q, q ≠ 3 → q ≠ 44 → q ≠ 46 → m' q = m q) → (s = 0 ∨ o.length < dd → m' 46 = m 46) → (¬ s = 0 → dd ≤ o.length → m' 46 0 = nI dd ∧ m' 46 1 = m 46 0 ∧ m' 46 2 = m 46 1 ∧ m' 46 3 = m 46 2) → Q (some (.inl (nI dd))) m')
    (h2 : ∀ m' y P', zdst f (8 * sz) ld c r P e = none → zS f sz P' true m' → zFu m m' → Q (some (.inl y)) m') : zR κ (d + 2) Y_Unpacker_readDistance 0 [some (.inr 41), some (.inr 3), some (.inl (nI c)), none, none] [] m Q := by
  refine w_Unpacker_readDistance_0 ⟨fun h7 => ?_, fun h7 => ?_⟩
  · have hc7 : ¬ c = 7 := fun z => h7 (by rw [z]; rfl)
    obtain ⟨⟨L, hL⟩, hg⟩ := hk
    refine r_word is_Code_63 (by decide) (by decide) hL hg hs (fun y P1 ov1 m1 a1 a2 a3 _ a5 => ⟨y, rfl, ?_⟩)
    have hS1 : zS f sz P1 ov1 (zms m1 44 3 (m1 44 3 + 1)) := zS_of a2 (zms_ne (by decide)) (zms_ne (by decide))
    have e1 : (zms m1 44 3 (m1 44 3 + 1)) 44 3 = nI (e + 1) := by rw [zms_ss, a3 44 (by decide), he, nI_1]
    have hF1 : ∀ q, q ≠ 3 → q ≠ 44 → (zms m1 44 3 (m1 44 3 + 1)) q = m q := fun q q1 q2 => by rw [zms_ne q2, a3 q q1]
    have hG1 : ∀ i, i ≠ 3 → (zms m1 44 3 (m1 44 3 + 1)) 44 i = m 44 i := fun i hi => by rw [zms_nk hi, a3 44 (by decide)]
    generalize zms m1 44 3 (m1 44 3 + 1) = m2 at hS1 e1 hF1 hG1 ⊢
    rcases a5 rfl with ⟨s, c1, c2, c3, c4⟩ | ⟨c1, c2⟩
    · subst c2
      subst c4
      obtain ⟨t1, t2, t3, t4, t5⟩ := tv4_nI ⟨s, c1⟩
      refine ⟨fun h6 => ⟨vp_in_nI c1 (by decide), vp_in_nI c1 (by decide), ?_⟩, fun h6 => ?_⟩
      · have h6' : 6 ≤ s := by
          rcases Nat.lt_or_ge s 6 with q | q
          · exact absurd h6 (show ¬ nI 6 ≤ nI s from nI_ge q (by decide))
          · exact q
        rw [nI_clamp (by omega)]
        have t2 : tv_5.getD s 0 = nI (zDT.getD s 0) := t2
        have t1 : tv_4.getD s 0 = nI (zDB.getD s 0) := t1
        have t3 : zDT.getD s 0 ≤ 6 := t3
        have t4 : zDB.getD s 0 ≤ 65 := t4
        rw [t2, t1]
        refine r_take (by omega) hS1 (fun v P2 ov2 m3 b1 b2 b3 b4 => ⟨nI v, rfl, ?_⟩)
        have hv : v < 64 := Nat.lt_of_lt_of_le b1 (Nat.pow_le_pow_right (by decide) t3)
        have hs0 : ¬ nI s = 0 := nI_ne0 (by omega) (by omega)
        rw [nI_add]
        rcases b4.2 rfl with ⟨g1, g2⟩ | ⟨g1, g2⟩
        · subst g2
          have hz : zdst f (8 * sz) ld c r P e = some (s, zDB.getD s 0 + v, P2, e + 1) := by
            unfold zdst
            rw [if_neg hc7, c3]
            show (if 6 ≤ s then _ else _) = _
            rw [if_pos h6', g1]
          refine s_dist72 (fun z => ?_) (fun z1 z2 m4 k1 k2 k3 k4 k5 => ?_)
          · refine h1 m3 s _ P2 _ hz (by omega) b2 (by rw [b3 44 (by decide)]; exact e1) (fun i hi => by rw [b3 44 (by decide)]; exact hG1 i hi) (fun q q1 q2 _ => by rw [b3 q q1]; exact hF1 q q1 q2) (fun _ => by rw [b3 46 (by decide)]; exact hF1 46 (by decide) (by decide)) (fun w1 w2 => ?_)
            rcases z with z | z
            · exact absurd z hs0
            · rw [b3 42 (by decide), hF1 42 (by decide) (by decide), ho] at z
              exact absurd z (nI_nlt w2 (by omega))
          · have e46 : m3 46 = m 46 := by rw [b3 46 (by decide)]; exact hF1 46 (by decide) (by decide)
            refine h1 m4 s _ P2 _ hz (by omega) (zS_of b2 (k1 3 (by decide)) (k1 4 (by decide))) (by rw [k1 44 (by decide), b3 44 (by decide)]; exact e1) (fun i hi => by rw [k1 44 (by decide), b3 44 (by decide)]; exact hG1 i hi) (fun q q1 q2 q3 => by rw [k1 q q3, b3 q q1]; exact hF1 q q1 q2) (fun w => ?_) (fun _ _ => ⟨k2, by rw [k3, e46], by rw [k4, e46], by rw [k5, e46]⟩)
            rcases w with w | w
            · exact absurd (by rw [w]; rfl) hs0
            · rw [b3 42 (by decide), hF1 42 (by decide) (by decide), ho] at z2
              exact absurd (nI_lt w (by omega)) z2
        · subst g2
          have hz : zdst f (8 * sz) ld c r P e = none := by
            unfold zdst
            rw [if_neg hc7, c3]
            show (if 6 ≤ s then _ else _) = _
            rw [if_pos h6', g1]
          refine s_dist72 (fun z => ?_) (fun z1 z2 m4 k1 k2 k3 k4 k5 => ?_)
          · exact h2 m3 _ P2 hz b2 (fun q q1 q2 q3 q4 q5 => by rw [b3 q q1]; exact hF1 q q1 q4)
          · exact h2 m4 _ P2 hz (zS_of b2 (k1 3 (by decide)) (k1 4 (by decide))) (fun q q1 q2 q3 q4 q5 => by rw [k1 q q5, b3 q q1]; exact hF1 q q1 q4)
      · have h6' : s < 6 := by
          rcases Nat.lt_or_ge s 6 with q | q
          · exact q
          · exact absurd (show nI 6 ≤ nI s from nI_le q (by omega)) h6
        have e46 : m2 46 = m 46 := hF1 46 (by decide) (by decide)
        refine s_distOf (zRr_of e46 hr) hp h6' ⟨_, rfl, ?_⟩
        have hle := zrg_le (s := s) hp
        have hz : zdst f (8 * sz) ld c r P e = some (s, zrg r s, P1, e + 1) := by
          unfold zdst
          rw [if_neg hc7, c3]
          show (if 6 ≤ s then _ else _) = _
          rw [if_neg (by omega)]
        refine s_dist72 (fun z => ?_) (fun z1 z2 m4 k1 k2 k3 k4 k5 => ?_)
        · refine h1 m2 s _ P1 _ hz hle hS1 e1 hG1 (fun q q1 q2 _ => hF1 q q1 q2) (fun _ => e46) (fun w1 w2 => ?_)
          rcases z with z | z
          · exact absurd ((nI_eq (by omega) (by decide)).mp z) w1
          · rw [hF1 42 (by decide) (by decide), ho] at z
            exact absurd z (nI_nlt w2 (by omega))
        · refine h1 m4 s _ P1 _ hz hle (zS_of hS1 (k1 3 (by decide)) (k1 4 (by decide))) (by rw [k1 44 (by decide)]; exact e1) (fun i hi => by rw [k1 44 (by decide)]; exact hG1 i hi) (fun q q1 q2 q3 => by rw [k1 q q3]; exact hF1 q q1 q2) (fun w => ?_) (fun _ _ => ⟨k2, by rw [k3, e46], by rw [k4, e46], by rw [k5, e46]⟩)
          rcases w with w | w
          · exact absurd (by rw [w]; rfl) z1
          · rw [hF1 42 (by decide) (by decide), ho] at z2
            exact absurd (nI_lt w (by omega)) z2
    · subst c2
      have hz : zdst f (8 * sz) ld c r P e = none := by
        unfold zdst
        rw [if_neg hc7, c1]
      have hend : ∀ (s0 x3 : Int32) (m3 : zM) (P3 : Nat), zS f sz P3 true m3 → (∀ q, q ≠ 3 → m3 q = m2 q) → zR κ (d + 1 + 1) Y_Unpacker_readDistance 72 [some (.inr 41), some (.inr 3), some (.inl (nI c)), some (.inl x3), none] [.inl s0] m3 Q := by
        intro s0 x3 m3 P3 g1 g2
        refine s_dist72 (fun z => ?_) (fun z1 z2 m4 k1 k2 k3 k4 k5 => ?_)
        · exact h2 m3 _ P3 hz g1 (fun q q1 q2 q3 q4 q5 => by rw [g2 q q1]; exact hF1 q q1 q4)
        · exact h2 m4 _ P3 hz (zS_of g1 (k1 3 (by decide)) (k1 4 (by decide))) (fun q q1 q2 q3 q4 q5 => by rw [k1 q q5, g2 q q1]; exact hF1 q q1 q4)
      refine ⟨fun h6 => ?_, fun h6 => s_distOf_any (fun y6 => ⟨y6, rfl, hend _ _ _ P1 hS1 (fun _ _ => rfl)⟩) a1⟩
      rcases a1 with rfl | ⟨s, c3, rfl⟩
      · exact absurd h6 (by decide)
      · obtain ⟨t1, t2, t3, t4, t5⟩ := tv4_nI ⟨s, c3⟩
        refine ⟨vp_in_nI c3 (by decide), vp_in_nI c3 (by decide), ?_⟩
        rw [nI_clamp (by omega)]
        have t2 : tv_5.getD s 0 = nI (zDT.getD s 0) := t2
        have t3 : zDT.getD s 0 ≤ 6 := t3
        rw [t2]
        refine r_take (by omega) hS1 (fun v P2 ov2 m3 b1 b2 b3 b4 => ⟨nI v, rfl, ?_⟩)
        rw [b4.1 rfl] at b2
        exact hend _ _ _ P2 b2 b3
  · have hc7 : c = 7 := (nI_eq (by omega) (by decide)).mp h7
    refine s_distOf (s := 0) hr hp (by decide) ⟨_, rfl, ?_⟩
    have hz : zdst f (8 * sz) ld c r P e = some (0, r.1, P, e) := by
      unfold zdst
      rw [if_pos hc7]
    exact h1 m 0 _ P e hz (zrg_le hp) hs he (fun _ _ => rfl) (fun _ _ _ _ => rfl) (fun _ => rfl) (fun z => absurd rfl z)
end zUread
