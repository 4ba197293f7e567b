/-! copies and words are found, on both sides -/
section zPfind
variable {κ : zK} {d : Nat} {Q : Option zV → zM → Prop} {T : List Nat} {q e : Nat}
def zTx (T : List Nat) (m : zM) : Prop := T.length ≤ 96 ∧ m 1 1 = nI T.length ∧ (∀ i, i < T.length → m 2 i = nI (T.getD i 0)) ∧ ∀ x ∈ T, x < 256
def zTm (T : List Nat) (m : zM) : Prop := T.length ≤ 96 ∧ m 68 0 = nI T.length ∧ (∀ i, i < T.length → m 69 i = nI (T.getD i 0)) ∧ ∀ x ∈ T, x < 256
theorem zTx_of {m m' : zM} (h1 : m' 1 = m 1) (h2 : m' 2 = m 2) (h : zTx T m) : zTx T m' := by
  unfold zTx
  rw [h1, h2]
  exact h
theorem zTm_of {m m' : zM} (h1 : m' 68 0 = m 68 0) (h2 : m' 69 = m 69) (h : zTm T m) : zTm T m' := by
  unfold zTm
  rw [h1, h2]
  exact h
theorem zT_b {i : Nat} (h : ∀ x ∈ T, x < 256) : T.getD i 0 < 256 := by
  rcases Nat.lt_or_ge i T.length with q | q
  · exact h _ (zget_mem q)
  · rw [List.getD_eq_getElem?_getD, List.getElem?_eq_none q]
    decide
theorem s_equalBytes {m : zM} {dd most : Nat} (hT : zTx T m) (hd : 1 ≤ dd) (hdq : dd ≤ q) (hq : q + most ≤ T.length) (hQ : Q (some (.inl (nI (zeq T q dd most 0)))) m) : zR κ (d + 1) Y_Text_equalBytes 0 [some (.inr 1), some (.inl (nI (q - dd))), some (.inl (nI q)), some (.inl (nI most)), none, none] [] m Q := by
  obtain ⟨t1, t2, t3, t4⟩ := hT
  refine w_Text_equalBytes_0 is_Text_1 ?_
  rw [t2, nI_sub (by omega), if_neg (nI_nlt (by omega) (by omega))]
  have key : ∀ (r k : Nat), k + r = most → zeq T q dd r k = zeq T q dd most 0 → zR κ (d + 1) Y_Text_equalBytes 15 [some (.inr 1), some (.inl (nI (q - dd))), some (.inl (nI q)), some (.inl (nI most)), some (.inl (nI most)), some (.inl (nI k))] [] m Q := by
    intro r
    induction r with
    | zero =>
      intro k hk hz
      have hz : k = zeq T q dd most 0 := hz
      refine w_Text_equalBytes_15 is_Text_1 ⟨fun _ => ?_, fun z => absurd (nI_le (by omega) (by omega)) z⟩
      rw [hz]
      exact hQ
    | succ r ih =>
      intro k hk hz
      rw [zeq] at hz
      refine w_Text_equalBytes_15 is_Text_1 ⟨fun z => absurd z (nI_ge (by omega) (by omega)), fun _ => ?_⟩
      rw [nI_add, nI_add, nI_clamp (by omega), nI_clamp (by omega)]
      refine ⟨vp_in_nI (by omega) (by decide), vp_in_nI (by omega) (by decide), ?_⟩
      rw [t3 _ (by omega), t3 _ (by omega), nI_1]
      have b1 := zT_b (T := T) (i := q - dd + k) t4
      have b2 := zT_b (T := T) (i := q + k) t4
      have e1 : q + k - dd = q - dd + k := by omega
      rw [e1] at hz
      refine ⟨fun z => ?_, fun z => ?_⟩
      · rw [if_neg (fun w => z (by rw [w]))] at hz
        rw [hz]
        exact hQ
      · rw [if_pos ((nI_eq (by omega) (by omega)).mp z)] at hz
        exact ih (k + 1) (by omega) hz
  exact key most 0 (by omega) rfl
theorem s_findCopy {m : zM} (hT : zTx T m) (hqe : q ≤ e) (he : e ≤ T.length) (hQ : ∀ m', (∀ p, p ≠ 32 → m' p = m p) → m' 32 0 = nI (zcpy T q e).1 → m' 32 1 = nI (zcpy T q e).2 → Q none m') : zR κ (d + 2) Y_Finder_findCopy 0 [some (.inr 32), some (.inr 1), some (.inl (nI q)), some (.inl (nI e)), none, none, none] [] m Q := by
  have t1 := hT.1
  refine w_Finder_findCopy_0 is_Text_1 ?_
  have em : (if nI e - nI q < 57 then nI e - nI q else 57) = nI (min 57 (e - q)) := by
    rw [nI_sub hqe]
    by_cases h : e - q < 57
    · rw [if_pos (show nI (e - q) < (57 : Int32) from nI_lt (b := 57) h (by decide)), show min 57 (e - q) = e - q by omega]
    · rw [if_neg (show ¬ nI (e - q) < (57 : Int32) from nI_nlt (b := 57) (by omega) (by omega)), show min 57 (e - q) = 57 by omega] <;> rfl
  rw [em]
  have key : ∀ (r dd b nr : Nat) (m1 : zM), dd + r = q + 1 → 1 ≤ dd → b ≤ 57 → m1 32 0 = nI b → m1 32 1 = nI nr → (∀ p, p ≠ 32 → m1 p = m p) → zmat T q (min 57 (e - q)) r dd b nr = zcpy T q e → zR κ (d + 2) Y_Finder_findCopy 23 [some (.inr 32), some (.inr 1), some (.inl (nI q)), some (.inl (nI e)), some (.inl (nI (min 57 (e - q)))), some (.inl (nI dd)), none] [] m1 Q := by
    intro r
    induction r with
    | zero =>
      intro dd b nr m1 hr h1 hb e0 e1 hF hz
      have hz : (b, nr) = zcpy T q e := hz
      refine w_Finder_findCopy_23 is_Text_1 ⟨fun _ => hQ m1 hF (by rw [e0, ← hz]) (by rw [e1, ← hz]), fun z => absurd (nI_lt (by omega) (by omega)) z⟩
    | succ r ih =>
      intro dd b nr m1 hr h1 hb e0 e1 hF hz
      have hle := (zeq_le (T := T) (q := q) (d := dd) (min 57 (e - q)) 0).2
      refine w_Finder_findCopy_23 is_Text_1 ⟨fun z => absurd z (nI_nlt (by omega) (by omega)), fun _ => ⟨fun z => ?_, fun z => ?_⟩⟩
      · rw [e0] at z
        rw [zmat_full _ _ _ _ ((nI_leI (by omega) (by omega)).mp z)] at hz
        exact hQ m1 hF (by rw [e0, ← hz]) (by rw [e1, ← hz])
      · rw [nI_sub (by omega)]
        unfold zmat at hz
        refine s_equalBytes (zTx_of (hF 1 (by decide)) (hF 2 (by decide)) hT) h1 (by omega) (by omega) ⟨_, rfl, fun z2 => ?_, fun z2 => ?_⟩
        · rw [e0] at z2
          have z2 := (nI_leI (by omega) (by omega)).mp z2
          rw [if_neg (by omega)] at hz
          rw [nI_1]
          exact ih (dd + 1) b nr m1 (by omega) (by omega) hb e0 e1 hF hz
        · rw [e0] at z2
          have z2 : b < zeq T q dd (min 57 (e - q)) 0 := by
            rcases Nat.lt_or_ge b (zeq T q dd (min 57 (e - q)) 0) with w | w
            · exact w
            · exact absurd (nI_le w (by omega)) z2
          rw [if_pos z2] at hz
          rw [nI_1]
          exact ih (dd + 1) _ dd _ (by omega) (by omega) (by omega) (by rw [zms_nk (by decide), zms_ss]) zms_ss (fun p hp => by rw [zms_ne hp, zms_ne hp]; exact hF p hp) hz
  exact key q 1 0 0 _ (by omega) (by decide) (by decide) (by rw [zms_nk (by decide), zms_ss]; rfl) (by rw [zms_ss]; rfl) (fun p hp => by rw [zms_ne hp, zms_ne hp]) rfl
theorem s_standsIn {m : zM} {mm x : Nat} (hT : zTx T m) (h45 : mm = 4 ∨ mm = 5) (hx : x < 16) (hq : q + zyo mm x ≤ T.length) (hQ : Q (some (.inl (if zst T q mm x (zyo mm x) 0 = true then 1 else 0))) m) : zR κ (d + 5) Y_Words_standsIn 0 [some (.inr 1), some (.inl (nI q)), some (.inl (nI mm)), some (.inl (nI x)), none, none] [] m Q := by
  have t1 := hT.1
  have hy6 : zyo mm x ≤ 6 := Nat.le_trans zyo_le (by omega)
  refine w_Words_standsIn_0 is_Text_1 (s_Words_yieldOf h45 hx ⟨_, rfl, ?_⟩)
  have key : ∀ (r k : Nat), k + r = zyo mm x → zst T q mm x r k = zst T q mm x (zyo mm x) 0 → zR κ (d + 5) Y_Words_standsIn 10 [some (.inr 1), some (.inl (nI q)), some (.inl (nI mm)), some (.inl (nI x)), some (.inl (nI (zyo mm x))), some (.inl (nI k))] [] m Q := by
    intro r
    induction r with
    | zero =>
      intro k hk hz
      have hz : true = zst T q mm x (zyo mm x) 0 := hz
      rw [← hz] at hQ
      exact w_Words_standsIn_10 is_Text_1 ⟨fun _ => hQ, fun z => absurd (nI_le (by omega) (by omega)) z⟩
    | succ r ih =>
      intro k hk hz
      rw [zst] at hz
      refine w_Words_standsIn_10 is_Text_1 ⟨fun z => absurd z (nI_ge (by omega) (by omega)), fun _ => ?_⟩
      rw [nI_add]
      refine w_Text_get_0 is_Text_1 ⟨fun z => absurd z (nI_pos (by omega)), fun _ => ⟨fun z => ?_, fun _ => ⟨vp_in_nI (by omega) (by decide), ?_⟩⟩⟩
      · rw [hT.2.1] at z
        exact absurd z (nI_ge (by omega) (by omega))
      rw [nI_clamp (by omega), hT.2.2.1 _ (by omega)]
      refine ⟨_, rfl, s_Words_byteOf h45 hx (by omega) ⟨_, rfl, fun z => ?_, fun z => ?_⟩⟩
      · rw [if_pos z] at hz
        rw [nI_1]
        exact ih (k + 1) (by omega) hz
      · rw [if_neg z] at hz
        rw [← hz] at hQ
        exact hQ
  exact key (zyo mm x) 0 (by omega) rfl
theorem s_findWord {m : zM} (hT : zTx T m) (hqe : q ≤ e) (he : e ≤ T.length) (hQ : ∀ m', (∀ p, p ≠ 32 → m' p = m p) → (∀ i, i < 2 → m' 32 i = m 32 i) → m' 32 2 = nI (zwrd T q e).1 → m' 32 3 = nI (zwrd T q e).2.1 → m' 32 4 = nI (zwrd T q e).2.2 → Q none m') : zR κ (d + 6) Y_Finder_findWord 0 [some (.inr 32), some (.inr 1), some (.inl (nI q)), some (.inl (nI e)), none, none, none] [] m Q := by
  have t1 := hT.1
  refine w_Finder_findWord_0 is_Text_1 ?_
  have inner : ∀ (mm : Nat), (mm = 4 ∨ mm = 5) → (∀ (m1 : zM) (w : Nat × Nat × Nat), w.1 ≤ 6 → m1 32 2 = nI w.1 → m1 32 3 = nI w.2.1 → m1 32 4 = nI w.2.2 → (∀ p, p ≠ 32 → m1 p = m p) → (∀ i, i < 2 → m1 32 i = m 32 i) → zsk T q e (32 - (mm - 3) * 16) ((mm - 3) * 16) w = zwrd T q e → zR κ (d + 6) Y_Finder_findWord 18 [some (.inr 32), some (.inr 1), some (.inl (nI q)), some (.inl (nI e)), some (.inl (nI mm + 1)), none, none] [] m1 Q) →
      ∀ (rr x : Nat) (m1 : zM) (w : Nat × Nat × Nat), x + rr = 16 → w.1 ≤ 6 → m1 32 2 = nI w.1 → m1 32 3 = nI w.2.1 → m1 32 4 = nI w.2.2 → (∀ p, p ≠ 32 → m1 p = m p) → (∀ i, i < 2 → m1 32 i = m 32 i) → zsk T q e (32 - ((mm - 4) * 16 + x)) ((mm - 4) * 16 + x) w = zwrd T q e →
      zR κ (d + 6) Y_Finder_findWord 27 [some (.inr 32), some (.inr 1), some (.inl (nI q)), some (.inl (nI e)), some (.inl (nI mm)), some (.inl (nI x)), none] [] m1 Q := by
    intro mm h45 hnx rr
    induction rr with
    | zero =>
      intro x m1 w hx hw6 e2 e3 e4 hF hG hz
      refine w_Finder_findWord_27 is_Text_1 ⟨fun _ => hnx m1 w hw6 e2 e3 e4 hF hG ?_, fun z => absurd (show nI 16 ≤ nI x from nI_le (by omega) (by omega)) z⟩
      rw [show (mm - 3) * 16 = (mm - 4) * 16 + x by omega]
      exact hz
    | succ rr ih =>
      intro x m1 w hx hw6 e2 e3 e4 hF hG hz
      have hx16 : x < 16 := by omega
      have hy6 : zyo mm x ≤ 6 := Nat.le_trans zyo_le (by omega)
      have ej : 32 - ((mm - 4) * 16 + x) = (32 - ((mm - 4) * 16 + (x + 1))) + 1 := by omega
      have e1 : 4 + ((mm - 4) * 16 + x) / 16 = mm := by omega
      have e5 : ((mm - 4) * 16 + x) % 16 = x := by omega
      rw [ej] at hz
      unfold zsk at hz
      rw [e1, e5, show (mm - 4) * 16 + x + 1 = (mm - 4) * 16 + (x + 1) by omega] at hz
      have hskip : ¬ (w.1 < zyo mm x ∧ q + zyo mm x ≤ e ∧ zst T q mm x (zyo mm x) 0 = true) → zR κ (d + 6) Y_Finder_findWord 27 [some (.inr 32), some (.inr 1), some (.inl (nI q)), some (.inl (nI e)), some (.inl (nI mm)), some (.inl (nI x + 1)), none] [] m1 Q := by
        intro hn
        rw [if_neg hn] at hz
        rw [nI_1]
        exact ih (x + 1) m1 w (by omega) hw6 e2 e3 e4 hF hG hz
      refine w_Finder_findWord_27 is_Text_1 ⟨fun z => absurd z (show ¬ nI 16 ≤ nI x from nI_ge hx16 (by decide)), fun _ => ?_⟩
      refine s_Words_yieldOf h45 hx16 ⟨_, rfl, fun z => ?_, fun z => ⟨fun z2 => ?_, fun z2 => ?_⟩⟩
      · rw [e2] at z
        have z := (nI_leI (by omega) (by omega)).mp z
        exact hskip (fun c => by omega)
      · rw [nI_sub hqe] at z2
        have z2 := (nI_ltI (by omega) (by omega)).mp z2
        exact hskip (fun c => by omega)
      · rw [e2] at z
        have z : w.1 < zyo mm x := by
          rcases Nat.lt_or_ge w.1 (zyo mm x) with c | c
          · exact c
          · exact absurd (nI_le c (by omega)) z
        rw [nI_sub hqe] at z2
        have z2 : q + zyo mm x ≤ e := by
          rcases Nat.lt_or_ge (e - q) (zyo mm x) with c | c
          · exact absurd (nI_lt c (by omega)) z2
          · omega
        refine s_standsIn (zTx_of (hF 1 (by decide)) (hF 2 (by decide)) hT) h45 hx16 (by omega) ⟨_, rfl, fun z3 => ?_, fun z3 => ?_⟩
        · refine hskip (fun c => ?_)
          rw [if_pos c.2.2] at z3
          exact absurd z3 (by decide)
        · have z4 : zst T q mm x (zyo mm x) 0 = true := by
            cases hb : zst T q mm x (zyo mm x) 0 with
            | true => rfl
            | false => rw [hb] at z3; exact absurd rfl z3
          rw [if_pos ⟨z, z2, z4⟩] at hz
          rw [nI_1]
          exact ih (x + 1) _ (zyo mm x, mm, x) (by omega) hy6 (by rw [zms_nk (by decide), zms_nk (by decide), zms_ss]) (by rw [zms_nk (by decide), zms_ss]) zms_ss (fun p hp => by rw [zms_ne hp, zms_ne hp, zms_ne hp]; exact hF p hp) (fun i hi => by rw [zms_nk (by omega), zms_nk (by omega), zms_nk (by omega)]; exact hG i hi) hz
  -- four letters, then five
  have k5 : ∀ (m1 : zM) (w : Nat × Nat × Nat), w.1 ≤ 6 → m1 32 2 = nI w.1 → m1 32 3 = nI w.2.1 → m1 32 4 = nI w.2.2 → (∀ p, p ≠ 32 → m1 p = m p) → (∀ i, i < 2 → m1 32 i = m 32 i) → zsk T q e 16 16 w = zwrd T q e → zR κ (d + 6) Y_Finder_findWord 18 [some (.inr 32), some (.inr 1), some (.inl (nI q)), some (.inl (nI e)), some (.inl (nI 5)), none, none] [] m1 Q := by
    intro m1 w h1 h2 h3 h4 h5 h6 h7
    refine w_Finder_findWord_18 is_Text_1 ⟨fun z => absurd z (by decide), fun _ => ?_⟩
    refine inner 5 (Or.inr rfl) (fun m2 w2 g1 g2 g3 g4 g5 g6 g7 => ?_) 16 0 m1 w rfl h1 h2 h3 h4 h5 h6 h7
    have g7 : w2 = zwrd T q e := g7
    refine w_Finder_findWord_18 is_Text_1 ⟨fun _ => hQ m2 g5 g6 (by rw [g2, g7]) (by rw [g3, g7]) (by rw [g4, g7]), fun z => absurd (by decide) z⟩
  refine w_Finder_findWord_18 is_Text_1 ⟨fun z => absurd z (by decide), fun _ => ?_⟩
  exact inner 4 (Or.inl rfl) (fun m2 w2 g1 g2 g3 g4 g5 g6 g7 => k5 m2 w2 g1 g2 g3 g4 g5 g6 g7) 16 0 _ (0, 0, 0) rfl (by decide) (by rw [zms_nk (by decide), zms_nk (by decide), zms_ss]; rfl) (by rw [zms_nk (by decide), zms_ss]; rfl) (by rw [zms_ss]; rfl) (fun p hp => by rw [zms_ne hp, zms_ne hp, zms_ne hp]) (fun i hi => by rw [zms_nk (by omega), zms_nk (by omega), zms_nk (by omega)]) rfl
/-! the reference -/
theorem s_Mo_match {m : zM} (hT : zTm T m) (hqe : q ≤ e) (he : e ≤ T.length) (hQ : ∀ m', (∀ p, p ≠ 68 → m' p = m p) → (∀ i, i ≠ 23 → i ≠ 24 → m' 68 i = m 68 i) → m' 68 23 = nI (zcpy T q e).1 → m' 68 24 = nI (zcpy T q e).2 → Q none m') : zR κ d Y_Mo_match 0 [some (.inr 68), some (.inl (nI q)), some (.inl (nI e)), none, none] [] m Q := by
  have t1 := hT.1
  refine w_Mo_match_0 ?_
  have key : ∀ (r dd b nr : Nat) (m1 : zM), dd + r = q + 1 → 1 ≤ dd → b ≤ 57 → m1 68 23 = nI b → m1 68 24 = nI nr → (∀ p, p ≠ 68 → m1 p = m p) → (∀ i, i ≠ 23 → i ≠ 24 → m1 68 i = m 68 i) → zmat T q (min 57 (e - q)) r dd b nr = zcpy T q e → zR κ d Y_Mo_match 12 [some (.inr 68), some (.inl (nI q)), some (.inl (nI e)), some (.inl (nI dd)), none] [] m1 Q := by
    intro r
    induction r with
    | zero =>
      intro dd b nr m1 hr h1 hb e0 e1 hF hG hz
      have hz : (b, nr) = zcpy T q e := hz
      exact w_Mo_match_12 ⟨fun _ => hQ m1 hF hG (by rw [e0, ← hz]) (by rw [e1, ← hz]), fun z => absurd (nI_lt (by omega) (by omega)) z⟩
    | succ r ih =>
      intro dd b nr m1 hr h1 hb e0 e1 hF hG hz
      unfold zmat at hz
      have hle := (zeq_le (T := T) (q := q) (d := dd) (min 57 (e - q)) 0).2
      refine w_Mo_match_12 ⟨fun z => absurd z (nI_nlt (by omega) (by omega)), fun _ => ?_⟩
      -- the end of one distance
      have kup : ∀ n : Nat, n = zeq T q dd (min 57 (e - q)) 0 → ((nI n ≤ m1 68 23 → zR κ d Y_Mo_match 82 [some (.inr 68), some (.inl (nI q)), some (.inl (nI e)), some (.inl (nI dd)), some (.inl (nI n))] [.inl (m1 68 24), .inr 68] m1 Q) ∧ (¬ nI n ≤ m1 68 23 → zR κ d Y_Mo_match 82 [some (.inr 68), some (.inl (nI q)), some (.inl (nI e)), some (.inl (nI dd)), some (.inl (nI n))] [.inl (nI dd), .inr 68] m1 Q)) := by
        intro n hn
        rw [← hn] at hz hle
        refine ⟨fun z => w_Mo_match_82 ⟨fun _ => ?_, fun w => absurd z w⟩, fun z => w_Mo_match_82 ⟨fun w => absurd w z, fun _ => ?_⟩⟩
        · rw [e0] at z
          have z := (nI_leI (by omega) (by omega)).mp z
          rw [if_neg (by omega)] at hz
          rw [zms_self rfl, zms_self rfl, nI_1]
          exact ih (dd + 1) b nr m1 (by omega) (by omega) hb e0 e1 hF hG hz
        · rw [e0] at z
          have z : b < n := by
            rcases Nat.lt_or_ge b n with w | w
            · exact w
            · exact absurd (nI_le w (by omega)) z
          rw [if_pos z] at hz
          rw [nI_1]
          exact ih (dd + 1) n dd _ (by omega) (by omega) (by omega) zms_ss (by rw [zms_nk (by decide), zms_ss]) (fun p hp => by rw [zms_ne hp, zms_ne hp]; exact hF p hp) (fun i i1 i2 => by rw [zms_nk i1, zms_nk i2]; exact hG i i1 i2) hz
      have inner : ∀ (rr k : Nat), k + rr = min 57 (e - q) → zeq T q dd rr k = zeq T q dd (min 57 (e - q)) 0 → zR κ d Y_Mo_match 20 [some (.inr 68), some (.inl (nI q)), some (.inl (nI e)), some (.inl (nI dd)), some (.inl (nI k))] [] m1 Q := by
        intro rr
        induction rr with
        | zero =>
          intro k hk hzz
          have hzz : k = zeq T q dd (min 57 (e - q)) 0 := hzz
          refine w_Mo_match_20 ⟨fun _ => kup k hzz, fun z => ⟨fun _ => kup k hzz, fun z2 => ?_⟩⟩
          have z : k < 57 := by
            rcases Nat.lt_or_ge k 57 with w | w
            · exact w
            · exact absurd (show nI 57 ≤ nI k from nI_le w (by omega)) z
          rw [nI_add] at z2
          exact absurd (nI_le (by omega) (by omega)) z2
        | succ rr ih2 =>
          intro k hk hzz
          rw [zeq] at hzz
          refine w_Mo_match_20 ⟨fun z => absurd z (show ¬ nI 57 ≤ nI k from nI_ge (by omega) (by decide)), fun _ => ?_⟩
          rw [nI_add, nI_sub (by omega), nI_clamp (by omega), nI_clamp (by omega), hF 69 (by decide), hT.2.2.1 _ (by omega), hT.2.2.1 _ (by omega), nI_1]
          refine ⟨fun z => absurd z (nI_ge (by omega) (by omega)), fun _ => ⟨vp_in_nI (by omega) (by decide), vp_in_nI (by omega) (by decide), ?_⟩⟩
          have b1 := zT_b (T := T) (i := q + k - dd) hT.2.2.2
          have b2 := zT_b (T := T) (i := q + k) hT.2.2.2
          refine ⟨fun z => ?_, fun z => ?_⟩
          · rw [if_neg (fun w => z (by rw [w]))] at hzz
            exact kup k hzz
          · rw [if_pos ((nI_eq (by omega) (by omega)).mp z).symm] at hzz
            exact ih2 (k + 1) (by omega) hzz
      exact inner (min 57 (e - q)) 0 (by omega) rfl
  exact key q 1 0 0 _ (by omega) (by decide) (by decide) (by rw [zms_nk (by decide), zms_ss]; rfl) (by rw [zms_ss]; rfl) (fun p hp => by rw [zms_ne hp, zms_ne hp]) (fun i i1 i2 => by rw [zms_nk i2, zms_nk i1]) rfl
theorem s_Mo_stands {m : zM} {mm x : Nat} (hT : zTm T m) (h45 : mm = 4 ∨ mm = 5) (hx : x < 16) (he : e ≤ T.length) (hq96 : q ≤ 96) (hQ : Q (some (.inl (if q + zyo mm x ≤ e ∧ zst T q mm x (zyo mm x) 0 = true then 1 else 0))) m) : zR κ (d + 4) Y_Mo_stands 0 [some (.inr 68), some (.inl (nI q)), some (.inl (nI e)), some (.inl (nI mm)), some (.inl (nI x)), none, none] [] m Q := by
  have t1 := hT.1
  have hy6 : zyo mm x ≤ 6 := Nat.le_trans zyo_le (by omega)
  refine w_Mo_stands_0 (s_Mo_bytesOf h45 hx ⟨_, rfl, fun z => ?_, fun z => ?_⟩)
  · rw [nI_add] at z
    have hqy := (nI_leI (by omega) (by omega)).mp z
    have key : ∀ (r k : Nat), k + r = zyo mm x → zst T q mm x r k = zst T q mm x (zyo mm x) 0 → zR κ (d + 4) Y_Mo_stands 21 [some (.inr 68), some (.inl (nI q)), some (.inl (nI e)), some (.inl (nI mm)), some (.inl (nI x)), some (.inl (nI (zyo mm x))), some (.inl (nI k))] [] m Q := by
      intro r
      induction r with
      | zero =>
        intro k hk hz
        have hz : true = zst T q mm x (zyo mm x) 0 := hz
        rw [if_pos ⟨hqy, hz.symm⟩] at hQ
        exact w_Mo_stands_21 ⟨fun _ => hQ, fun z => absurd (nI_le (by omega) (by omega)) z⟩
      | succ r ih =>
        intro k hk hz
        rw [zst] at hz
        refine w_Mo_stands_21 ⟨fun z => absurd z (nI_ge (by omega) (by omega)), fun _ => ?_⟩
        rw [nI_add, nI_clamp (by omega), hT.2.2.1 _ (by omega), nI_1]
        refine ⟨vp_in_nI (by omega) (by decide), s_Mo_byteOf h45 hx (by omega) ⟨_, rfl, fun z => ?_, fun z => ?_⟩⟩
        · rw [if_pos z] at hz
          exact ih (k + 1) (by omega) hz
        · rw [if_neg z] at hz
          rw [if_neg (fun w => by rw [← hz] at w; exact absurd w.2 (by decide))] at hQ
          exact hQ
    exact key (zyo mm x) 0 (by omega) rfl
  · rw [nI_add] at z
    rw [if_neg (fun w => z (nI_le w.1 (by omega)))] at hQ
    exact hQ
theorem s_Mo_seek {m : zM} (hT : zTm T m) (hqe : q ≤ e) (he : e ≤ T.length) (hQ : ∀ m', (∀ p, p ≠ 68 → m' p = m p) → (∀ i, i ≠ 25 → i ≠ 26 → i ≠ 27 → m' 68 i = m 68 i) → m' 68 25 = nI (zwrd T q e).1 → (0 < (zwrd T q e).1 → m' 68 26 = nI (zwrd T q e).2.1 ∧ m' 68 27 = nI (zwrd T q e).2.2) → Q none m') : zR κ (d + 5) Y_Mo_seek 0 [some (.inr 68), some (.inl (nI q)), some (.inl (nI e)), none, none] [] m Q := by
  have t1 := hT.1
  refine w_Mo_seek_0 ?_
  have inner : ∀ (mm : Nat), (mm = 4 ∨ mm = 5) → (∀ (m1 : zM) (w : Nat × Nat × Nat), w.1 ≤ 6 → m1 68 25 = nI w.1 → (0 < w.1 → m1 68 26 = nI w.2.1 ∧ m1 68 27 = nI w.2.2) → (∀ p, p ≠ 68 → m1 p = m p) → (∀ i, i ≠ 25 → i ≠ 26 → i ≠ 27 → m1 68 i = m 68 i) → zsk T q e (32 - (mm - 3) * 16) ((mm - 3) * 16) w = zwrd T q e → zR κ (d + 5) Y_Mo_seek 7 [some (.inr 68), some (.inl (nI q)), some (.inl (nI e)), some (.inl (nI mm + 1)), none] [] m1 Q) →
      ∀ (rr x : Nat) (m1 : zM) (w : Nat × Nat × Nat), x + rr = 16 → w.1 ≤ 6 → m1 68 25 = nI w.1 → (0 < w.1 → m1 68 26 = nI w.2.1 ∧ m1 68 27 = nI w.2.2) → (∀ p, p ≠ 68 → m1 p = m p) → (∀ i, i ≠ 25 → i ≠ 26 → i ≠ 27 → m1 68 i = m 68 i) → zsk T q e (32 - ((mm - 4) * 16 + x)) ((mm - 4) * 16 + x) w = zwrd T q e →
      zR κ (d + 5) Y_Mo_seek 15 [some (.inr 68), some (.inl (nI q)), some (.inl (nI e)), some (.inl (nI mm)), some (.inl (nI x))] [] m1 Q := by
    intro mm h45 hnx rr
    induction rr with
    | zero =>
      intro x m1 w hx hw6 e2 e3 hF hG hz
      refine w_Mo_seek_15 ⟨fun _ => hnx m1 w hw6 e2 e3 hF hG ?_, fun z => absurd (show nI 16 ≤ nI x from nI_le (by omega) (by omega)) z⟩
      rw [show (mm - 3) * 16 = (mm - 4) * 16 + x by omega]
      exact hz
    | succ rr ih =>
      intro x m1 w hx hw6 e2 e3 hF hG hz
      have hx16 : x < 16 := by omega
      have hy6 : zyo mm x ≤ 6 := Nat.le_trans zyo_le (by omega)
      have ej : 32 - ((mm - 4) * 16 + x) = (32 - ((mm - 4) * 16 + (x + 1))) + 1 := by omega
      have e1 : 4 + ((mm - 4) * 16 + x) / 16 = mm := by omega
      have e5 : ((mm - 4) * 16 + x) % 16 = x := by omega
      rw [ej] at hz
      unfold zsk at hz
      rw [e1, e5, show (mm - 4) * 16 + x + 1 = (mm - 4) * 16 + (x + 1) by omega] at hz
      have hskip : ¬ (w.1 < zyo mm x ∧ q + zyo mm x ≤ e ∧ zst T q mm x (zyo mm x) 0 = true) → zR κ (d + 5) Y_Mo_seek 15 [some (.inr 68), some (.inl (nI q)), some (.inl (nI e)), some (.inl (nI mm)), some (.inl (nI x + 1))] [] m1 Q := by
        intro hn
        rw [if_neg hn] at hz
        rw [nI_1]
        exact ih (x + 1) m1 w (by omega) hw6 e2 e3 hF hG hz
      refine w_Mo_seek_15 ⟨fun z => absurd z (show ¬ nI 16 ≤ nI x from nI_ge hx16 (by decide)), fun _ => ?_⟩
      refine s_Mo_bytesOf h45 hx16 ⟨_, rfl, fun z => ?_, fun z => ?_⟩
      · rw [e2] at z
        have z := (nI_leI (by omega) (by omega)).mp z
        exact hskip (fun c => by omega)
      · rw [e2] at z
        have z : w.1 < zyo mm x := by
          rcases Nat.lt_or_ge w.1 (zyo mm x) with c | c
          · exact c
          · exact absurd (nI_le c (by omega)) z
        refine s_Mo_stands (zTm_of (hG 0 (by decide) (by decide) (by decide)) (hF 69 (by decide)) hT) h45 hx16 he (by omega) ⟨_, rfl, fun z3 => ?_, fun z3 => ?_⟩
        · refine hskip (fun c => ?_)
          rw [if_pos c.2] at z3
          exact absurd z3 (by decide)
        · have z4 : q + zyo mm x ≤ e ∧ zst T q mm x (zyo mm x) 0 = true := by
            by_cases hb : q + zyo mm x ≤ e ∧ zst T q mm x (zyo mm x) 0 = true
            · exact hb
            · rw [if_neg hb] at z3
              exact absurd rfl z3
          rw [if_pos ⟨z, z4⟩] at hz
          refine s_Mo_bytesOf h45 hx16 ⟨_, rfl, ?_⟩
          rw [nI_1]
          exact ih (x + 1) _ (zyo mm x, mm, x) (by omega) hy6 (by rw [zms_nk (by decide), zms_nk (by decide), zms_ss]) (fun _ => ⟨by rw [zms_nk (by decide), zms_ss], zms_ss⟩) (fun p hp => by rw [zms_ne hp, zms_ne hp, zms_ne hp]; exact hF p hp) (fun i i1 i2 i3 => by rw [zms_nk i3, zms_nk i2, zms_nk i1]; exact hG i i1 i2 i3) hz
  have k5 : ∀ (m1 : zM) (w : Nat × Nat × Nat), w.1 ≤ 6 → m1 68 25 = nI w.1 → (0 < w.1 → m1 68 26 = nI w.2.1 ∧ m1 68 27 = nI w.2.2) → (∀ p, p ≠ 68 → m1 p = m p) → (∀ i, i ≠ 25 → i ≠ 26 → i ≠ 27 → m1 68 i = m 68 i) → zsk T q e 16 16 w = zwrd T q e → zR κ (d + 5) Y_Mo_seek 7 [some (.inr 68), some (.inl (nI q)), some (.inl (nI e)), some (.inl (nI 5)), none] [] m1 Q := by
    intro m1 w h1 h2 h3 h5 h6 h7
    refine w_Mo_seek_7 ⟨fun z => absurd z (by decide), fun _ => ?_⟩
    refine inner 5 (Or.inr rfl) (fun m2 w2 g1 g2 g3 g5 g6 g7 => ?_) 16 0 m1 w rfl h1 h2 h3 h5 h6 h7
    have g7 : w2 = zwrd T q e := g7
    refine w_Mo_seek_7 ⟨fun _ => hQ m2 g5 g6 (by rw [g2, g7]) (by rw [← g7]; exact g3), fun z => absurd (by decide) z⟩
  refine w_Mo_seek_7 ⟨fun z => absurd z (by decide), fun _ => ?_⟩
  exact inner 4 (Or.inl rfl) (fun m2 w2 g1 g2 g3 g5 g6 g7 => k5 m2 w2 g1 g2 g3 g5 g6 g7) 16 0 _ (0, 0, 0) rfl (by decide) (by rw [zms_ss]; rfl) (fun h => absurd h (Nat.lt_irrefl 0)) (fun p hp => by rw [zms_ne hp]) (fun i i1 i2 i3 => by rw [zms_nk i1]) rfl
end zPfind
