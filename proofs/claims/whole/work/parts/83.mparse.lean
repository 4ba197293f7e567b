/-! the reference parses a block into commands -/
section zMparse
variable {κ : zK} {d : Nat} {Q : Option zV → zM → Prop} {T : List Nat}
def zcmdM (k : Nat) (c : zCmd) (m : zM) : Prop := m 77 k = nI c.2.1 ∧ m 78 k = nI c.2.2.1 ∧ m 79 k = nI (if c.2.2.2.2.2.2.1 = 0 then 0 else c.2.2.2.1) ∧ m 80 k = zsI c.2.2.2.2.1 ∧ (7 ≤ c.2.2.2.2.1 → m 81 k = nI (c.2.2.2.2.2.1 - zDB.getD (c.2.2.2.2.1 - 1) 0)) ∧ m 82 k = nI c.2.2.2.2.2.2.1 ∧ m 83 k = nI c.2.2.2.2.2.2.2
def zPm (cs : List zCmd) (m : zM) : Prop := m 68 15 = nI cs.length ∧ ∀ k, k < cs.length → zcmdM k (cs.getD k zcn0) m
theorem s_Mo_distance {m : zM} {n dd : Nat} {r : zRg} {rt : Bool} (h15 : m 68 15 = nI n) (hn : n < 50) (hr : zRc 75 r m) (hp : zRp r) (hd1 : 1 ≤ dd) (hd : dd < 140)
    (hQ : ∀ m' s, s = (if rt = true then zrsy r dd else zps dd) → (∀ p, p ≠ 80 → p ≠ 81 → m' p = m p) → (∀ p k, k ≠ n → m' p k = m p k) → m' 80 n = nI s → (6 ≤ s → m' 81 n = nI (dd - zDB.getD s 0)) → Q none m') :
    zR κ (d + 1) Y_Mo_distance 0 [some (.inr 68), some (.inl (nI dd)), some (.inl (nI rt.toNat)), none, none] [] m Q := by
  obtain ⟨p1, p2, p3, p4⟩ := zps_in hd1 hd
  have hin : vp_in (nI n) 50 := vp_in_nI hn (by decide)
  -- a plain symbol
  have k97 : (if rt = true then zrsy r dd else zps dd) = zps dd → ∀ (x4 : Int32) (rr s : Nat) (m1 : zM), s = 6 + rr → zpsd dd rr s = zps dd → (∀ p, p ≠ 80 → p ≠ 81 → m1 p = m p) → (∀ p k, k ≠ n → m1 p k = m p k) → s < 14 → zR κ (d + 1) Y_Mo_distance 97 [some (.inr 68), some (.inl (nI dd)), some (.inl (nI rt.toNat)), some (.inl (nI s)), some (.inl x4)] [] m1 Q := by
    intro hsp x4 rr
    induction rr with
    | zero =>
      intro s m1 hs hz hF hK hs14
      have hz : s = zps dd := hz
      have e15 : m1 68 15 = nI n := by rw [hF 68 (by decide) (by decide)]; exact h15
      refine w_Mo_distance_97 (s_lowest hs14 (by omega) ⟨_, rfl, fun _ => s_lowest hs14 (by omega) ⟨_, rfl, ?_⟩, fun z => ?_⟩)
      · rw [e15, nI_clamp (by omega), nI_sub (by rw [hz]; exact p4)]
        exact ⟨hin, hin, hQ _ s (by rw [hz]; exact hsp.symm) (fun p a b => by rw [zms_ne a, zms_ne b]; exact hF p a b) (fun p k hk => by
          by_cases h8 : p = 80
          · subst h8
            rw [zms_nk hk, zms_ne (by decide)]
            exact hK 80 k hk
          · rw [zms_ne h8]
            by_cases h81 : p = 81
            · subst h81
              rw [zms_nk hk]
              exact hK 81 k hk
            · rw [zms_ne h81]
              exact hK p k hk) zms_ss (fun _ => by rw [zms_ne (by decide), zms_ss])⟩
      · exact absurd (nI_le (show zDB.getD s 0 ≤ dd by rw [hz]; exact p4) (by omega)) z
    | succ rr ih =>
      intro s m1 hs hz hF hK hs14
      rw [zpsd] at hz
      have e15 : m1 68 15 = nI n := by rw [hF 68 (by decide) (by decide)]; exact h15
      obtain ⟨t1, t2, t3, t4, t5⟩ := tv4_nI ⟨s, hs14⟩
      have t4 : zDB.getD s 0 ≤ 65 := t4
      refine w_Mo_distance_97 (s_lowest hs14 (by omega) ⟨_, rfl, fun z => s_lowest hs14 (by omega) ⟨_, rfl, ?_⟩, fun z => ?_⟩)
      · have z := (nI_leI (by omega) (by omega)).mp z
        rw [if_pos z] at hz
        rw [e15, nI_clamp (by omega), nI_sub z]
        exact ⟨hin, hin, hQ _ s (by rw [hz]; exact hsp.symm) (fun p a b => by rw [zms_ne a, zms_ne b]; exact hF p a b) (fun p k hk => by
          by_cases h8 : p = 80
          · subst h8
            rw [zms_nk hk, zms_ne (by decide)]
            exact hK 80 k hk
          · rw [zms_ne h8]
            by_cases h81 : p = 81
            · subst h81
              rw [zms_nk hk]
              exact hK 81 k hk
            · rw [zms_ne h81]
              exact hK p k hk) zms_ss (fun _ => by rw [zms_ne (by decide), zms_ss])⟩
      · have z : ¬ zDB.getD s 0 ≤ dd := fun w => z (nI_le w (by omega))
        rw [if_neg z] at hz
        have e0 : (-1 : Int32) = -nI 1 := by decide
        have e : nI s + (-1) = nI (s - 1) := by
          rw [e0, ← Int32.sub_eq_add_neg, nI_sub (by omega)]
        rw [e]
        exact ih (s - 1) m1 (by omega) hz hF hK (by omega)
  -- the symbol is known, or a plain one is sought
  have k80 : ∀ x4 : Int32, (∀ s, s < 6 → (if rt = true then zrsy r dd else zps dd) = s → zR κ (d + 1) Y_Mo_distance 80 [some (.inr 68), some (.inl (nI dd)), some (.inl (nI rt.toNat)), some (.inl (nI s)), some (.inl x4)] [] m Q) ∧ ((if rt = true then zrsy r dd else zps dd) = zps dd → zR κ (d + 1) Y_Mo_distance 80 [some (.inr 68), some (.inl (nI dd)), some (.inl (nI rt.toNat)), some (.inl (-1)), some (.inl x4)] [] m Q) := by
    intro x4
    refine ⟨fun s hs he => ?_, fun he => ?_⟩
    · refine w_Mo_distance_80 ?_
      rw [h15, nI_clamp (by omega)]
      refine ⟨hin, fun _ => ⟨hin, hQ _ s he.symm (fun p a b => by rw [zms_ne a, zms_ne b]) (fun p k hk => by
          by_cases h8 : p = 80
          · subst h8
            rw [zms_nk hk, zms_ne (by decide)]
          · rw [zms_ne h8]
            by_cases h81 : p = 81
            · subst h81
              rw [zms_nk hk]
            · rw [zms_ne h81]) zms_ss (fun w => by omega)⟩, fun z => absurd (nI_pos' (by omega)) z⟩
    · refine w_Mo_distance_80 ?_
      rw [h15, nI_clamp (by omega)]
      refine ⟨hin, fun z => absurd z (by decide), fun _ => ?_⟩
      exact k97 he x4 7 13 _ rfl p1 (fun p a b => zms_ne b) (fun p k hk => by
        by_cases h81 : p = 81
        · subst h81
          rw [zms_nk hk]
        · rw [zms_ne h81]) (by decide)
  refine w_Mo_distance_0 ?_
  cases rt with
  | false =>
    refine w_Mo_distance_5 ⟨fun z => absurd z (by decide), fun _ => ⟨fun _ => ?_, fun z => absurd rfl z⟩⟩
    refine w_Mo_distance_38 ⟨fun z => absurd z (by decide), fun _ => ⟨fun _ => (k80 _).2 rfl, fun z => absurd rfl z⟩⟩
  | true =>
    obtain ⟨r0, r1, r2, r3⟩ := hr
    obtain ⟨⟨q1, q2⟩, ⟨q3, q4⟩, ⟨q5, q6⟩, q7, q8⟩ := hp
    have step : ∀ (x3 : Int32) (k v : Nat), k < 4 → m 75 k = nI v → v ≤ 200 → zR κ (d + 1) Y_Mo_distance 5 [some (.inr 68), some (.inl (nI dd)), some (.inl (nI true.toNat)), some (.inl (if v = dd then nI k else x3)), some (.inl (nI k + (-1)))] [] m Q → zR κ (d + 1) Y_Mo_distance 5 [some (.inr 68), some (.inl (nI dd)), some (.inl (nI true.toNat)), some (.inl x3), some (.inl (nI k))] [] m Q := by
      intro x3 k v hk hv hv2 h
      refine w_Mo_distance_5 ⟨fun z => absurd z (nI_pos (by omega)), fun _ => ⟨fun z => absurd z (by decide), fun _ => ?_⟩⟩
      rw [nI_clamp (by omega), hv]
      refine ⟨vp_in_nI hk (by decide), fun z => ?_, fun z => ?_⟩
      · rw [if_neg (fun w => z (by rw [w]))] at h
        exact h
      · rw [if_pos ((nI_eq (by omega) (by omega)).mp z)] at h
        exact h
    refine step (-1) 3 _ (by decide) r3 q8 (step _ 2 _ (by decide) r2 q6 (step _ 1 _ (by decide) r1 q4 (step _ 0 _ (by decide) r0 q2 (w_Mo_distance_5 ⟨fun _ => ?_, fun z => absurd (by decide) z⟩))))
    have hz : zrsy r dd = zrsy r dd := rfl
    by_cases h0 : r.1 = dd
    · rw [if_pos h0]
      refine w_Mo_distance_38 ⟨fun _ => (k80 _).1 0 (by decide) ?_, fun z => absurd (by decide) z⟩
      show zrsy r dd = 0
      unfold zrsy
      rw [if_pos h0]
    rw [if_neg h0]
    by_cases h1 : r.2.1 = dd
    · rw [if_pos h1]
      refine w_Mo_distance_38 ⟨fun _ => (k80 _).1 1 (by decide) ?_, fun z => absurd (by decide) z⟩
      show zrsy r dd = 1
      unfold zrsy
      rw [if_neg h0, if_pos h1]
    rw [if_neg h1]
    by_cases h2 : r.2.2.1 = dd
    · rw [if_pos h2]
      refine w_Mo_distance_38 ⟨fun _ => (k80 _).1 2 (by decide) ?_, fun z => absurd (by decide) z⟩
      show zrsy r dd = 2
      unfold zrsy
      rw [if_neg h0, if_neg h1, if_pos h2]
    rw [if_neg h2]
    by_cases h3 : r.2.2.2 = dd
    · rw [if_pos h3]
      refine w_Mo_distance_38 ⟨fun _ => (k80 _).1 3 (by decide) ?_, fun z => absurd (by decide) z⟩
      show zrsy r dd = 3
      unfold zrsy
      rw [if_neg h0, if_neg h1, if_neg h2, if_pos h3]
    rw [if_neg h3]
    have e1 : m 75 0 - 1 = nI (r.1 - 1) := by rw [r0]; exact nI_sub (b := 1) q1
    have e2 : m 75 0 + 1 = nI (r.1 + 1) := by rw [r0]; exact nI_1 _
    refine w_Mo_distance_38 ⟨fun z => absurd z (by decide), fun _ => ⟨fun z => absurd z (by decide), fun _ => ?_⟩⟩
    rw [e1, e2]
    refine ⟨fun z4 => ?_, fun z4 => (k80 _).1 4 (by decide) ?_⟩
    · have z4 : ¬ r.1 - 1 = dd := fun w => z4 (by rw [w])
      refine ⟨fun z5 => (k80 _).2 ?_, fun z5 => (k80 _).1 5 (by decide) ?_⟩
      · have z5 : ¬ r.1 + 1 = dd := fun w => z5 (by rw [w])
        show zrsy r dd = zps dd
        unfold zrsy
        rw [if_neg h0, if_neg h1, if_neg h2, if_neg h3, if_neg z4, if_neg z5]
      · have z5 : r.1 + 1 = dd := ((nI_eq (by omega) (by omega)).mp z5).symm
        show zrsy r dd = 5
        unfold zrsy
        rw [if_neg h0, if_neg h1, if_neg h2, if_neg h3, if_neg z4, if_pos z5]
    · have z4 : r.1 - 1 = dd := ((nI_eq (by omega) (by omega)).mp z4).symm
      show zrsy r dd = 4
      unfold zrsy
      rw [if_neg h0, if_neg h1, if_neg h2, if_neg h3, if_pos z4]
theorem s_cmd_pre {m : zM} {n lits mm dd y : Nat} {aw : Bool} (h15 : m 68 15 = nI n) (hn : n < 50) (hmm : mm = 0 ∨ (2 ≤ mm ∧ mm < 100))
    (h : ∀ m2, (∀ p, p ≠ 77 → p ≠ 79 → p ≠ 80 → p ≠ 82 → p ≠ 83 → m2 p = m p) → (∀ p k, k ≠ n → m2 p k = m p k) → m2 77 n = nI lits → m2 79 n = nI mm → m2 82 n = nI y → m2 83 n = nI aw.toNat → m2 80 n = -1 → zR κ (d + 1) Y_Mo_command 110 [some (.inr 68), some (.inl (nI lits)), some (.inl (nI mm)), some (.inl (nI dd)), some (.inl (nI y)), some (.inl (nI aw.toNat))] [.inl (nI (if mm = 0 then 0 else zcs mm)), .inl (nI n), .inr 78] m2 Q) :
    zR κ (d + 1) Y_Mo_command 0 [some (.inr 68), some (.inl (nI lits)), some (.inl (nI mm)), some (.inl (nI dd)), some (.inl (nI y)), some (.inl (nI aw.toNat))] [] m Q := by
  have hin : vp_in (nI n) 50 := vp_in_nI hn (by decide)
  refine w_Mo_command_0 ?_
  rw [h15, nI_clamp (by omega)]
  have k49 : zR κ (d + 1) Y_Mo_command 49 [some (.inr 68), some (.inl (nI lits)), some (.inl (nI mm)), some (.inl (nI dd)), some (.inl (nI y)), some (.inl (nI aw.toNat))] [.inl (nI aw.toNat), .inl (nI n), .inr 83] (zms (zms (zms m 77 n (nI lits)) 79 n (nI mm)) 82 n (nI y)) Q := by
    refine w_Mo_command_49 ?_
    have e15 : (zms (zms (zms m 77 n (nI lits)) 79 n (nI mm)) 82 n (nI y)) 68 15 = nI n := by rw [zms_ne (by decide), zms_ne (by decide), zms_ne (by decide)]; exact h15
    rw [e15, nI_clamp (by omega)]
    have hfin := h (zms (zms (zms (zms (zms m 77 n (nI lits)) 79 n (nI mm)) 82 n (nI y)) 83 n (nI aw.toNat)) 80 n (-1)) (fun p a b c e g => by rw [zms_ne c, zms_ne g, zms_ne e, zms_ne b, zms_ne a]) (fun p k hk => by
        by_cases h1 : p = 80
        · subst h1; rw [zms_nk hk, zms_ne (by decide), zms_ne (by decide), zms_ne (by decide), zms_ne (by decide)]
        · rw [zms_ne h1]
          by_cases h2 : p = 83
          · subst h2; rw [zms_nk hk, zms_ne (by decide), zms_ne (by decide), zms_ne (by decide)]
          · rw [zms_ne h2]
            by_cases h3 : p = 82
            · subst h3; rw [zms_nk hk, zms_ne (by decide), zms_ne (by decide)]
            · rw [zms_ne h3]
              by_cases h4 : p = 79
              · subst h4; rw [zms_nk hk, zms_ne (by decide)]
              · rw [zms_ne h4]
                by_cases h5 : p = 77
                · subst h5; rw [zms_nk hk]
                · rw [zms_ne h5]) (by rw [zms_ne (by decide), zms_ne (by decide), zms_ne (by decide), zms_ne (by decide), zms_ss]) (by rw [zms_ne (by decide), zms_ne (by decide), zms_ne (by decide), zms_ss]) (by rw [zms_ne (by decide), zms_ne (by decide), zms_ss]) (by rw [zms_ne (by decide), zms_ss]) zms_ss
    rcases hmm with h0 | ⟨h2, h100⟩
    · rw [if_pos h0] at hfin
      refine ⟨hin, hin, fun z => ?_, fun _ => hfin⟩
      have := (nI_leI (by decide) (by omega)).mp (show nI 2 ≤ nI mm from z)
      omega
    · rw [if_neg (by omega), (zcs_eq ⟨mm, h100⟩ h2).1] at hfin
      have hfin : zR κ (d + 1) Y_Mo_command 110 [some (.inr 68), some (.inl (nI lits)), some (.inl (nI mm)), some (.inl (nI dd)), some (.inl (nI y)), some (.inl (nI aw.toNat))] [.inl (nI (if mm ≤ 5 then mm - 2 else if mm < 10 then 4 else if mm < 26 then 5 else 6)), .inl (nI n), .inr 78] (zms (zms (zms (zms (zms m 77 n (nI lits)) 79 n (nI mm)) 82 n (nI y)) 83 n (nI aw.toNat)) 80 n (-1)) Q := hfin
      refine ⟨hin, hin, fun _ => ⟨fun z5 => ⟨fun z10 => ⟨fun z26 => ?_, fun z26 => ?_⟩, fun z10 => ?_⟩, fun z5 => ?_⟩, fun z => absurd (show nI 2 ≤ nI mm from nI_le h2 (by omega)) z⟩
      · have z26 := (nI_leI (by decide) (by omega)).mp (show nI 26 ≤ nI mm from z26)
        rw [if_neg (by omega), if_neg (by omega), if_neg (by omega)] at hfin
        exact hfin
      · have z10 := (nI_leI (by decide) (by omega)).mp (show nI 10 ≤ nI mm from z10)
        have z26 : mm < 26 := by
          rcases Nat.lt_or_ge mm 26 with g | g
          · exact g
          · exact absurd (show nI 26 ≤ nI mm from nI_le g (by omega)) z26
        rw [if_neg (by omega), if_neg (by omega), if_pos z26] at hfin
        exact hfin
      · have z5 := (nI_ltI (by decide) (by omega)).mp (show nI 5 < nI mm from z5)
        have z10 : mm < 10 := by
          rcases Nat.lt_or_ge mm 10 with g | g
          · exact g
          · exact absurd (show nI 10 ≤ nI mm from nI_le g (by omega)) z10
        rw [if_neg (by omega), if_pos z10] at hfin
        exact hfin
      · have z5 : mm ≤ 5 := by
          rcases Nat.lt_or_ge 5 mm with g | g
          · exact absurd (show nI 5 < nI mm from nI_lt g (by omega)) z5
          · exact g
        rw [if_pos z5] at hfin
        have e : nI mm - 2 = nI (mm - 2) := nI_sub (b := 2) h2
        rw [e]
        exact hfin
  cases aw with
  | false => exact ⟨hin, hin, hin, fun _ => k49, fun z => absurd rfl z⟩
  | true => exact ⟨hin, hin, hin, fun z => absurd z (by decide), fun _ => k49⟩
/-- what a command of the reference leaves alone -/
def zFc2 (n : Nat) (m m' : zM) : Prop := (∀ p, p ≠ 68 → p ≠ 75 → (p < 77 ∨ 83 < p) → m' p = m p) ∧ (∀ i, i ≠ 15 → m' 68 i = m 68 i) ∧ ∀ p k, 77 ≤ p → p ≤ 83 → k ≠ n → m' p k = m p k
set_option maxHeartbeats 1000000 in
theorem s_Mo_cmd {m : zM} {n lf lits mm dd y : Nat} {aw : Bool} {r : zRg} (h15 : m 68 15 = nI n) (hn : n < 50) (hmm : 2 ≤ mm) (hmm2 : mm < 100) (hy : y ≠ 0) (hr : zRc 75 r m) (hp : zRp r) (hd1 : 1 ≤ dd) (hd : dd < 140)
    (h1 : aw = false → mm = 3 → r.1 = dd → ∀ m', zcmdM n (lf, lits, 7, mm, 0, dd, y, 0) m' → m' 68 15 = nI (n + 1) → zRc 75 r m' → zFc2 n m m' → Q none m')
    (h2 : aw = false → ¬ (mm = 3 ∧ r.1 = dd) → ∀ m', zcmdM n (lf, lits, zcs mm, mm, zrsy r dd + 1, dd, y, 0) m' → m' 68 15 = nI (n + 1) → zRc 75 (if zrsy r dd = 0 then r else zrem r dd) m' → zFc2 n m m' → Q none m')
    (h3 : aw = true → ∀ m', zcmdM n (lf, lits, zcs mm, mm, zps dd + 1, dd, y, 1) m' → m' 68 15 = nI (n + 1) → zRc 75 r m' → zFc2 n m m' → Q none m') :
    zR κ (d + 2) Y_Mo_command 0 [some (.inr 68), some (.inl (nI lits)), some (.inl (nI mm)), some (.inl (nI dd)), some (.inl (nI y)), some (.inl (nI aw.toNat))] [] m Q := by
  have hin : vp_in (nI n) 50 := vp_in_nI hn (by decide)
  refine s_cmd_pre h15 hn (Or.inr ⟨hmm, hmm2⟩) (fun m2 a1 a2 a3 a4 a5 a6 a7 => ?_)
  rw [if_neg (show ¬ mm = 0 by omega)]
  have e15 : m2 68 15 = nI n := by rw [a1 68 (by decide) (by decide) (by decide) (by decide) (by decide)]; exact h15
  have hp1 := hp.1.2
  have e75 : m2 75 = m 75 := a1 75 (by decide) (by decide) (by decide) (by decide) (by decide)
  have hy0 : (if y = 0 then 0 else mm) = mm := if_neg hy
  -- the distance is written
  have k145 : ∀ m3 : zM, m3 = zms m2 78 n (nI (zcs mm)) → ¬ (aw = false ∧ mm = 3 ∧ r.1 = dd) → zR κ (d + 1 + 1) Y_Mo_command 145 [some (.inr 68), some (.inl (nI lits)), some (.inl (nI mm)), some (.inl (nI dd)), some (.inl (nI y)), some (.inl (nI aw.toNat))] [] m3 Q := by
    intro m3 hm3 hno
    have f3 : ∀ p, p ≠ 78 → m3 p = m2 p := fun p hp => by rw [hm3]; exact zms_ne hp
    have k3 : ∀ p k, k ≠ n → m3 p k = m2 p k := fun p k hk => by
      rw [hm3]
      by_cases h : p = 78
      · subst h; exact zms_nk hk
      · rw [zms_ne h]
    have e78 : m3 78 n = nI (zcs mm) := by rw [hm3, zms_ss]
    have e15' : m3 68 15 = nI n := by rw [f3 68 (by decide)]; exact e15
    have hr3 : zRc 75 r m3 := zRc_of (by rw [f3 75 (by decide)]; exact e75) hr
    have fr : ∀ m5 : zM, (∀ p, p ≠ 68 → p ≠ 75 → p ≠ 80 → p ≠ 81 → m5 p = m3 p) → (∀ i, i ≠ 15 → m5 68 i = m3 68 i) → (∀ p k, p ≠ 68 → p ≠ 75 → k ≠ n → m5 p k = m3 p k) → zFc2 n m m5 := by
      intro m5 g1 g2 g3
      refine ⟨fun p p1 p2 p3 => ?_, fun i hi => ?_, fun p k p1 p2 hk => ?_⟩
      · rw [g1 p p1 p2 (by omega) (by omega), f3 p (by omega)]
        exact a1 p (by omega) (by omega) (by omega) (by omega) (by omega)
      · rw [g2 i hi, f3 68 (by decide), a1 68 (by decide) (by decide) (by decide) (by decide) (by decide)]
      · rw [g3 p k (by omega) (by omega) hk, k3 p k hk]
        exact a2 p k hk
    refine w_Mo_command_145 ⟨fun z => ?_, fun _ => ?_⟩
    · have := (nI_leI (by omega) (by decide)).mp (show nI mm ≤ nI 0 from z)
      omega
    cases aw with
    | true =>
      refine ⟨fun _ => ?_, fun z => absurd z (by decide)⟩
      refine w_Mo_command_161 (s_Mo_distance (rt := false) e15' hn hr3 hp hd1 hd (fun m4 s b0 b1 b2 b3 b4 => ⟨rfl, fun _ => ?_, fun z => absurd z (by decide)⟩))
      have b0 : s = zps dd := b0
      subst b0
      have e15'' : m4 68 15 = nI n := by rw [b1 68 (by decide) (by decide)]; exact e15'
      refine h3 rfl _ ⟨?_, ?_, ?_, ?_, ?_, ?_, ?_⟩ (by rw [zms_ss, e15'', nI_1]) (zRc_of (by rw [zms_ne (by decide)]; exact b1 75 (by decide) (by decide)) hr3) (fr _ (fun p p1 p2 p3 p4 => by rw [zms_ne p1]; exact b1 p p3 p4) (fun i hi => by rw [zms_nk hi, b1 68 (by decide) (by decide)]) (fun p k p1 p2 hk => by rw [zms_ne p1]; exact b2 p k hk))
      · rw [zms_ne (by decide), b1 77 (by decide) (by decide), f3 77 (by decide)]; exact a3
      · rw [zms_ne (by decide), b1 78 (by decide) (by decide)]; exact e78
      · show _ = nI (if y = 0 then 0 else mm)
        rw [zms_ne (by decide), b1 79 (by decide) (by decide), f3 79 (by decide), hy0]; exact a4
      · rw [zms_ne (by decide), b3]
        show _ = zsI (zps dd + 1)
        unfold zsI
        rw [if_neg (by omega), Nat.add_sub_cancel]
      · intro w
        rw [zms_ne (by decide)]
        have w : 7 ≤ zps dd + 1 := w
        exact b4 (by omega)
      · rw [zms_ne (by decide), b1 82 (by decide) (by decide), f3 82 (by decide)]; exact a5
      · rw [zms_ne (by decide), b1 83 (by decide) (by decide), f3 83 (by decide)]; exact a6
    | false =>
      refine ⟨fun z => absurd rfl z, fun _ => ?_⟩
      have hno' : ¬ (mm = 3 ∧ r.1 = dd) := fun w => hno ⟨rfl, w⟩
      have hs14 := zrsy_lt (r := r) hd1 hd
      refine w_Mo_command_161 (s_Mo_distance (rt := true) e15' hn hr3 hp hd1 hd (fun m4 s b0 b1 b2 b3 b4 => ⟨rfl, fun z => absurd rfl z, fun _ => ?_⟩))
      have b0 : s = zrsy r dd := b0
      subst b0
      have e15'' : m4 68 15 = nI n := by rw [b1 68 (by decide) (by decide)]; exact e15'
      have hcmd : zcmdM n (lf, lits, zcs mm, mm, zrsy r dd + 1, dd, y, 0) m4 := by
        refine ⟨?_, ?_, ?_, ?_, ?_, ?_, ?_⟩
        · rw [b1 77 (by decide) (by decide), f3 77 (by decide)]; exact a3
        · rw [b1 78 (by decide) (by decide)]; exact e78
        · show _ = nI (if y = 0 then 0 else mm)
          rw [b1 79 (by decide) (by decide), f3 79 (by decide), hy0]; exact a4
        · rw [b3]
          show _ = zsI (zrsy r dd + 1)
          unfold zsI
          rw [if_neg (by omega), Nat.add_sub_cancel]
        · intro w
          have w : 7 ≤ zrsy r dd + 1 := w
          exact b4 (by omega)
        · rw [b1 82 (by decide) (by decide), f3 82 (by decide)]; exact a5
        · rw [b1 83 (by decide) (by decide), f3 83 (by decide)]; exact a6
      have hcmd_of : ∀ m5 : zM, (∀ p, 77 ≤ p → p ≤ 83 → m5 p = m4 p) → zcmdM n (lf, lits, zcs mm, mm, zrsy r dd + 1, dd, y, 0) m5 := by
        intro m5 g
        unfold zcmdM at hcmd ⊢
        rw [g 77 (by decide) (by decide), g 78 (by decide) (by decide), g 79 (by decide) (by decide), g 80 (by decide) (by decide), g 81 (by decide) (by decide), g 82 (by decide) (by decide), g 83 (by decide) (by decide)]
        exact hcmd
      rw [e15'', nI_clamp (by omega), b3]
      have hr4 : zRc 75 r m4 := zRc_of (b1 75 (by decide) (by decide)) hr3
      refine ⟨hin, fun z0 => ?_, fun z0 => ?_⟩
      · have z0 : zrsy r dd = 0 := (nI_eq (by omega) (by decide)).mp z0
        refine h2 rfl hno' _ (hcmd_of _ (fun p p1 p2 => zms_ne (by omega))) (by rw [zms_ss, nI_1]) ?_ (fr _ (fun p p1 p2 p3 p4 => by rw [zms_ne p1]; exact b1 p p3 p4) (fun i hi => by rw [zms_nk hi, b1 68 (by decide) (by decide)]) (fun p k p1 p2 hk => by rw [zms_ne p1]; exact b2 p k hk))
        rw [if_pos z0]
        exact zRc_of (zms_ne (by decide)) hr4
      · have z0 : ¬ zrsy r dd = 0 := fun w => z0 (by rw [w]; rfl)
        refine w_Mo_remember_0 ⟨rfl, ?_⟩
        have e15r : (zms (zms (zms (zms m4 75 3 (m4 75 2)) 75 2 (m4 75 1)) 75 1 (m4 75 0)) 75 0 (nI dd)) 68 15 = nI n := by rw [zms_ne (by decide), zms_ne (by decide), zms_ne (by decide), zms_ne (by decide)]; exact e15''
        rw [e15r]
        refine h2 rfl hno' _ (hcmd_of _ (fun p p1 p2 => by rw [zms_ne (by omega), zms_ne (by omega), zms_ne (by omega), zms_ne (by omega), zms_ne (by omega)])) (by rw [zms_ss, nI_1]) ?_ (fr _ (fun p p1 p2 p3 p4 => by rw [zms_ne p1, zms_ne p2, zms_ne p2, zms_ne p2, zms_ne p2]; exact b1 p p3 p4) (fun i hi => by rw [zms_nk hi, zms_ne (by decide), zms_ne (by decide), zms_ne (by decide), zms_ne (by decide), b1 68 (by decide) (by decide)]) (fun p k p1 p2 hk => by rw [zms_ne p1, zms_ne p2, zms_ne p2, zms_ne p2, zms_ne p2]; exact b2 p k hk))
        rw [if_neg z0]
        obtain ⟨r0, r1, r2, r3⟩ := hr4
        refine ⟨?_, ?_, ?_, ?_⟩
        · rw [zms_ne (by decide), zms_ss]; rfl
        · rw [zms_ne (by decide), zms_nk (by decide), zms_ss]; exact r0
        · rw [zms_ne (by decide), zms_nk (by decide), zms_nk (by decide), zms_ss]; exact r1
        · rw [zms_ne (by decide), zms_nk (by decide), zms_nk (by decide), zms_nk (by decide), zms_ss]; exact r2
  refine w_Mo_command_110 ?_
  rw [nI_clamp (by omega), e15, e75, hr.1, nI_clamp (by omega)]
  refine ⟨hin, fun z => k145 _ rfl (fun w => z (by rw [w.2.1]; rfl)), fun z => ⟨fun z2 => k145 _ rfl (fun w => z2 (by rw [w.1]; rfl)), fun z2 => ⟨fun z3 => k145 _ rfl (fun w => z3 (by rw [w.2.2])), fun z3 => ⟨hin, ?_⟩⟩⟩⟩
  have haw : aw = false := by
    cases aw
    · rfl
    · exact absurd z2 (by decide)
  have z3 : r.1 = dd := ((nI_eq (by omega) (by omega)).mp z3).symm
  refine h1 haw ((nI_eq (by omega) (by decide)).mp z) z3 _ ⟨?_, ?_, ?_, ?_, ?_, ?_, ?_⟩ (by rw [zms_ss, nI_1]) (zRc_of (by rw [zms_ne (by decide), zms_ne (by decide), zms_ne (by decide)]; exact e75) hr) ⟨fun p p1 p2 p3 => ?_, fun i hi => ?_, fun p k p1 p2 hk => ?_⟩
  · rw [zms_ne (by decide), zms_ne (by decide), zms_ne (by decide)]; exact a3
  · rw [zms_ne (by decide), zms_ss]; rfl
  · show _ = nI (if y = 0 then 0 else mm)
    rw [zms_ne (by decide), zms_ne (by decide), zms_ne (by decide), hy0]; exact a4
  · rw [zms_ne (by decide), zms_ne (by decide), zms_ne (by decide)]; exact a7
  · intro w
    exact absurd (show 7 ≤ 0 from w) (by decide)
  · rw [zms_ne (by decide), zms_ne (by decide), zms_ne (by decide)]; exact a5
  · rw [zms_ne (by decide), zms_ne (by decide), zms_ne (by decide), a6, haw]; rfl
  · rw [zms_ne p1, zms_ne (by omega), zms_ne (by omega)]
    exact a1 p (by omega) (by omega) (by omega) (by omega) (by omega)
  · rw [zms_nk hi, zms_ne (by decide), zms_ne (by decide), a1 68 (by decide) (by decide) (by decide) (by decide) (by decide)]
  · rw [zms_ne (by omega)]
    by_cases h : p = 78
    · subst h
      rw [zms_nk hk, zms_nk hk]
      exact a2 78 k hk
    · rw [zms_ne h, zms_ne h]
      exact a2 p k hk
/-- the literals that are left -/
theorem s_Mo_last {m : zM} {n lf lits : Nat} (h15 : m 68 15 = nI n) (hn : n < 50)
    (hQ : ∀ m', zcmdM n (lf, lits, 0, 2, 0, 0, 0, 0) m' → m' 68 15 = nI (n + 1) → m' 75 = m 75 → zFc2 n m m' → Q none m') :
    zR κ (d + 1) Y_Mo_command 0 [some (.inr 68), some (.inl (nI lits)), some (.inl (nI 0)), some (.inl (nI 0)), some (.inl (nI 0)), some (.inl (nI false.toNat))] [] m Q := by
  have hin : vp_in (nI n) 50 := vp_in_nI hn (by decide)
  refine s_cmd_pre h15 hn (Or.inl rfl) (fun m2 a1 a2 a3 a4 a5 a6 a7 => ?_)
  rw [if_pos rfl]
  have e15 : m2 68 15 = nI n := by rw [a1 68 (by decide) (by decide) (by decide) (by decide) (by decide)]; exact h15
  refine w_Mo_command_110 ?_
  rw [nI_clamp (by omega)]
  refine ⟨hin, fun _ => w_Mo_command_145 ⟨fun _ => ?_, fun z => absurd (by decide) z⟩, fun z => absurd z (by decide)⟩
  have e15' : (zms m2 78 n (nI 0)) 68 15 = nI n := by rw [zms_ne (by decide)]; exact e15
  rw [e15', nI_1]
  refine hQ _ ⟨?_, ?_, ?_, ?_, ?_, ?_, ?_⟩ zms_ss ?_ ⟨fun p p1 p2 p3 => ?_, fun i hi => ?_, fun p k p1 p2 hk => ?_⟩
  · rw [zms_ne (by decide), zms_ne (by decide)]; exact a3
  · rw [zms_ne (by decide), zms_ss]
  · rw [zms_ne (by decide), zms_ne (by decide)]; exact a4
  · rw [zms_ne (by decide), zms_ne (by decide)]; exact a7
  · intro w
    exact absurd (show 7 ≤ 0 from w) (by decide)
  · rw [zms_ne (by decide), zms_ne (by decide)]; exact a5
  · rw [zms_ne (by decide), zms_ne (by decide)]; exact a6
  · rw [zms_ne (by decide), zms_ne (by decide)]
    exact a1 75 (by decide) (by decide) (by decide) (by decide) (by decide)
  · rw [zms_ne p1, zms_ne (by omega)]
    exact a1 p (by omega) (by omega) (by omega) (by omega) (by omega)
  · rw [zms_nk hi, zms_ne (by decide), a1 68 (by decide) (by decide) (by decide) (by decide) (by decide)]
  · rw [zms_ne (by omega)]
    by_cases h : p = 78
    · subst h
      rw [zms_nk hk]
      exact a2 78 k hk
    · rw [zms_ne h]
      exact a2 p k hk
theorem zPm_add {cs : List zCmd} {c : zCmd} {m m' : zM} (h : zPm cs m) (h15 : m' 68 15 = nI (cs.length + 1)) (h2 : zcmdM cs.length c m') (hF : zFc2 cs.length m m') : zPm (cs ++ [c]) m' := by
  refine ⟨by rw [h15, List.length_append, List.length_singleton], fun k hk => ?_⟩
  rw [List.length_append, List.length_singleton] at hk
  by_cases hke : k = cs.length
  · subst hke
    rw [zgd_right _ _ _ (Nat.le_refl _), Nat.sub_self]
    exact h2
  · rw [zgd_left _ _ _ (show k < cs.length by omega)]
    have h3 := h.2 k (by omega)
    have f := hF.2.2
    unfold zcmdM at h3 ⊢
    rw [f 77 k (by decide) (by decide) hke, f 78 k (by decide) (by decide) hke, f 79 k (by decide) (by decide) hke, f 80 k (by decide) (by decide) hke, f 81 k (by decide) (by decide) hke, f 82 k (by decide) (by decide) hke, f 83 k (by decide) (by decide) hke]
    exact h3
/-- what the reference's parse leaves alone -/
def zFr (m m' : zM) : Prop := (∀ p, p ≠ 68 → p ≠ 75 → (p < 77 ∨ 83 < p) → m' p = m p) ∧ ∀ i, i ≠ 15 → i ≠ 23 → i ≠ 24 → i ≠ 25 → i ≠ 26 → i ≠ 27 → m' 68 i = m 68 i
theorem zFr.tr {m m' m'' : zM} (h : zFr m m') (h' : zFr m' m'') : zFr m m'' := ⟨fun p a b c => (h'.1 p a b c).trans (h.1 p a b c), fun i a b c e g j => (h'.2 i a b c e g j).trans (h.2 i a b c e g j)⟩
theorem zFc2.r {n : Nat} {m m' : zM} (h : zFc2 n m m') : zFr m m' := ⟨h.1, fun i a _ _ _ _ _ => h.2.1 i a⟩
set_option maxHeartbeats 2000000 in
theorem m_parse_loop {e p : Nat} {m0 : zM} (he : e ≤ T.length) (h96 : T.length ≤ 96) (hp48 : e ≤ p + 48) {fin : List zCmd × zRg} (hQ : ∀ m', zPm fin.1 m' → zRc 75 fin.2 m' → zRp fin.2 → zFr m0 m' → Q none m') :
    ∀ (t q lf : Nat) (r : zRg) (cs : List zCmd) (m : zM), e - q ≤ t → lf ≤ q → q ≤ e → 3 * cs.length + p ≤ lf → zTm T m → zPm cs m → zRc 75 r m → zRp r → zFr m0 m → zpar T e t q lf r cs = fin →
    zR κ (d + 6) Y_Mo_parse 10 [some (.inr 68), some (.inl (nI p)), some (.inl (nI e)), some (.inl (nI (q - lf))), some (.inl (nI q))] [] m Q := by
  have kend : ∀ (q lf : Nat) (r : zRg) (cs : List zCmd) (m : zM), q = e → lf ≤ q → 3 * cs.length + p ≤ lf → zPm cs m → zRc 75 r m → zRp r → zFr m0 m → (zfinc e lf cs, r) = fin → zR κ (d + 5 + 1) Y_Mo_parse 10 [some (.inr 68), some (.inl (nI p)), some (.inl (nI e)), some (.inl (nI (q - lf))), some (.inl (nI q))] [] m Q := by
    intro q lf r cs m hqe hlf h3 hP hr hp hF hz
    subst hqe
    subst hz
    refine w_Mo_parse_10 ⟨fun _ => ⟨fun z => ?_, fun z => ?_⟩, fun z => absurd (Int32.le_refl _) z⟩
    · have z := (nI_leI (by omega) (by decide)).mp (show nI (q - lf) ≤ nI 0 from z)
      refine hQ m ?_ hr hp hF
      show zPm (zfinc q lf cs) m
      unfold zfinc
      rw [if_neg (by omega)]
      exact hP
    · have z : lf < q := by
        rcases Nat.lt_or_ge lf q with w | w
        · exact w
        · exact absurd (show nI (q - lf) ≤ nI 0 from by rw [show q - lf = 0 by omega]; exact Int32.le_refl _) z
      refine s_Mo_last (n := cs.length) (lf := lf) (lits := q - lf) hP.1 (by omega) (fun m' a1 a2 a3 a4 => ⟨rfl, hQ m' ?_ (zRc_of a3 hr) hp (hF.tr a4.r)⟩)
      show zPm (zfinc q lf cs) m'
      unfold zfinc
      rw [if_pos z]
      exact zPm_add hP a2 a1 a4
  intro t
  induction t with
  | zero =>
    intro q lf r cs m ht h1 h2 h3 hT hP hr hp hF hz
    exact kend q lf r cs m (by omega) h1 h3 hP hr hp hF hz
  | succ t ih =>
    intro q lf r cs m ht h1 h2 h3 hT hP hr hp hF hz
    rw [zpar] at hz
    by_cases hqe : e ≤ q
    · rw [if_pos hqe] at hz
      exact kend q lf r cs m (by omega) h1 h3 hP hr hp hF hz
    rw [if_neg hqe] at hz
    obtain ⟨c1, c2⟩ := zcpy_in (T := T) (q := q) (e := e)
    have w1 := zwrd_in (T := T) (q := q) (e := e)
    refine w_Mo_parse_10 ⟨fun z => absurd ((nI_leI (by omega) (by omega)).mp z) hqe, fun _ => ?_⟩
    refine s_Mo_match hT h2 he (fun m1 a1 a2 a3 a4 => ⟨rfl, s_Mo_seek (zTm_of (a2 0 (by decide) (by decide)) (a1 69 (by decide)) hT) h2 he (fun m2 b1 b2 b3 b4 => ⟨rfl, ?_⟩)⟩)
    have hF2 : ∀ p, p ≠ 68 → m2 p = m p := fun p hp => (b1 p hp).trans (a1 p hp)
    have hG2 : ∀ i, i ≠ 23 → i ≠ 24 → i ≠ 25 → i ≠ 26 → i ≠ 27 → m2 68 i = m 68 i := fun i i1 i2 i3 i4 i5 => (b2 i i3 i4 i5).trans (a2 i i1 i2)
    have e23 : m2 68 23 = nI (zcpy T q e).1 := by rw [b2 23 (by decide) (by decide) (by decide)]; exact a3
    have e24 : m2 68 24 = nI (zcpy T q e).2 := by rw [b2 24 (by decide) (by decide) (by decide)]; exact a4
    have hT2 : zTm T m2 := zTm_of (hG2 0 (by decide) (by decide) (by decide) (by decide) (by decide)) (hF2 69 (by decide)) hT
    have hP2 : zPm cs m2 := by
      unfold zPm zcmdM at hP ⊢
      rw [hG2 15 (by decide) (by decide) (by decide) (by decide) (by decide), hF2 77 (by decide), hF2 78 (by decide), hF2 79 (by decide), hF2 80 (by decide), hF2 81 (by decide), hF2 82 (by decide), hF2 83 (by decide)]
      exact hP
    have hr2 : zRc 75 r m2 := zRc_of (hF2 75 (by decide)) hr
    have hFr2 : zFr m0 m2 := hF.tr ⟨fun p p1 p2 p3 => hF2 p p1, fun i _ i2 i3 i4 i5 i6 => hG2 i i2 i3 i4 i5 i6⟩
    clear a1 a2 a3 a4 b1 b2 hP hT hr hF hF2 hG2 m1
    generalize hC : zcpy T q e = C at *
    generalize hW : zwrd T q e = W at *
    unfold zWok at w1
    have w6 : W.1 ≤ 6 := by
      rcases Nat.eq_zero_or_pos W.1 with g | g
      · omega
      · exact (w1 g).2.1
    have kno : ¬ (4 ≤ W.1 ∧ C.1 < W.1) → zR κ (d + 5 + 1) Y_Mo_parse 86 [some (.inr 68), some (.inl (nI p)), some (.inl (nI e)), some (.inl (nI (q - lf))), some (.inl (nI q))] [] m2 Q := by
      intro hno
      rw [if_neg hno] at hz
      refine w_Mo_parse_86 ?_
      rw [e23, e24]
      refine ⟨fun z => ?_, fun z => ?_⟩
      · have z := (nI_ltI (by omega) (by decide)).mp (show nI C.1 < nI 3 from z)
        rw [if_neg (by omega)] at hz
        rw [nI_1, nI_1, show q - lf + 1 = q + 1 - lf by omega]
        exact ih (q + 1) lf r cs m2 (by omega) (by omega) (by omega) h3 hT2 hP2 hr2 hp hFr2 hz
      · have z : 3 ≤ C.1 := by
          rcases Nat.lt_or_ge C.1 3 with g | g
          · exact absurd (show nI C.1 < nI 3 from nI_lt g (by decide)) z
          · exact g
        rw [if_pos z] at hz
        obtain ⟨d1, d2⟩ := c2 (by omega)
        have knext : ∀ (m7 : zM) (r7 : zRg) (c7 : zCmd), zpar T e t (q + C.1) (q + C.1) r7 (cs ++ [c7]) = fin → zcmdM cs.length c7 m7 → m7 68 15 = nI (cs.length + 1) → zRc 75 r7 m7 → zRp r7 → zFc2 cs.length m2 m7 → zR κ (d + 5 + 1) Y_Mo_parse 10 [some (.inr 68), some (.inl (nI p)), some (.inl (nI e)), some (.inl 0), some (.inl (nI q + (m7 68 23)))] [] m7 Q := by
          intro m7 r7 c7 g1 g2 g3 g4 g5 g6
          rw [g6.2.1 23 (by decide), e23, nI_add]
          have := ih (q + C.1) (q + C.1) r7 (cs ++ [c7]) m7 (by omega) (by omega) (by omega) (by rw [List.length_append, List.length_singleton]; omega) (zTm_of (g6.2.1 0 (by decide)) (g6.1 69 (by decide) (by decide) (by decide)) hT2) (zPm_add hP2 g3 g2 g6) g4 g5 (hFr2.tr g6.r) g1
          rw [Nat.sub_self] at this
          exact this
        refine s_Mo_cmd (aw := false) (lf := lf) hP2.1 (by omega) (show 2 ≤ C.1 by omega) (by omega) (show C.1 ≠ 0 by omega) hr2 hp d1 (by omega) (fun _ g1 g2 m7 g3 g4 g5 g6 => ⟨rfl, ?_⟩) (fun _ g1 m7 g3 g4 g5 g6 => ⟨rfl, ?_⟩) (fun w => by cases w)
        · rw [if_pos ⟨g1, g2⟩] at hz
          exact knext m7 r _ hz g3 g4 g5 hp g6
        · rw [if_neg g1] at hz
          refine knext m7 _ _ hz g3 g4 g5 ?_ g6
          split
          · exact hp
          · exact ⟨⟨d1, by show C.2 ≤ 200; omega⟩, hp.1, hp.2.1, hp.2.2.1⟩
    rw [b3, e23]
    refine ⟨fun z4 => kno (fun w => ?_), fun z4 => ⟨fun z5 => kno (fun w => ?_), fun z5 => ?_⟩⟩
    · have z4 := (nI_ltI (by omega) (by decide)).mp (show nI W.1 < nI 4 from z4)
      omega
    · have z5 := (nI_leI (by omega) (by omega)).mp z5
      omega
    · have z4 : 4 ≤ W.1 := by
        rcases Nat.lt_or_ge W.1 4 with g | g
        · exact absurd (show nI W.1 < nI 4 from nI_lt g (by decide)) z4
        · exact g
      have z5 : C.1 < W.1 := by
        rcases Nat.lt_or_ge C.1 W.1 with g | g
        · exact g
        · exact absurd (nI_le g (by omega)) z5
      rw [if_pos ⟨z4, z5⟩] at hz
      obtain ⟨v1, v2, v3, v4⟩ := w1 (by omega)
      obtain ⟨b5, b6⟩ := b4 (by omega)
      rw [b5, b6, nI_1, nI_add]
      refine s_Mo_cmd (aw := true) (lf := lf) hP2.1 (by omega) (show 2 ≤ W.2.1 by omega) (by omega) (show W.1 ≠ 0 by omega) hr2 hp (show 1 ≤ q + 1 + W.2.2 by omega) (by omega) (fun w => by cases w) (fun w => by cases w) (fun _ m7 g3 g4 g5 g6 => ⟨rfl, ?_⟩)
      rw [g6.2.1 25 (by decide), b3, nI_add]
      have := ih (q + W.1) (q + W.1) r _ m7 (by omega) (by omega) (by omega) (by rw [List.length_append, List.length_singleton]; omega) (zTm_of (g6.2.1 0 (by decide)) (g6.1 69 (by decide) (by decide) (by decide)) hT2) (zPm_add hP2 g4 g3 g6) g5 hp (hFr2.tr g6.r) hz
      rw [Nat.sub_self] at this
      exact this
end zMparse
