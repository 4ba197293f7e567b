/-! the class reads a description -/
section zRead2
variable {κ : zK} {d : Nat} {Q : Option zV → zM → Prop} {c S : Nat}
def zFc (c : Nat) (m m' : zM) : Prop := (∀ q, q ≠ 3 → q ≠ c → q ≠ c + 1 → q ≠ c + 3 → m' q = m q) ∧ ∀ k, k ≠ 6 → m' c k = m c k
theorem zFc.rf {m : zM} : zFc c m m := ⟨fun _ _ _ _ _ => rfl, fun _ _ => rfl⟩
theorem zFc.tr {m m' m'' : zM} (h : zFc c m m') (h' : zFc c m' m'') : zFc c m m'' := ⟨fun q a b x y => (h'.1 q a b x y).trans (h.1 q a b x y), fun k a => (h'.2 k a).trans (h.2 k a)⟩
theorem zFc_3 (hc : 11 ≤ c) {m m' : zM} (h : ∀ q, q ≠ 3 → m' q = m q) : zFc c m m' := ⟨fun q a _ _ _ => h q a, fun k _ => by rw [h c (by omega)]⟩
set_option maxHeartbeats 1000000 in
theorem s_readSimple_loop {f : Nat → Int32} {sz nb kinds : Nat} {tot : Option (List (Nat × Nat) × Nat)} {m0 : zM} (hc : is_Code c S) (hc11 : 11 ≤ c) (hS : S ≤ 256) (hnb : nb ≤ 8) (hk4 : kinds ≤ 4) (h0 : m0 c 0 = nI S) (h1 : m0 c 1 = nI nb)
    (hQ : ∀ (y : Int32) (m' : zM) (l' : List (Nat × Nat)) (P' : Nat) (ov' : Bool), (y = 0 ∨ y = 1) → zS f sz P' ov' m' → zRaw c S m' l' → zFc c m0 m' → (y = 1 → ov' = false → tot = some (l', P')) → (y = 0 ∨ ov' = true → tot = none) → Q (some (.inl y)) m') :
    ∀ (r k P : Nat) (ov : Bool) (m : zM) (l : List (Nat × Nat)), k + r = kinds → l.length = k → zS f sz P ov m → zRaw c S m l → zFc c m0 m → (ov = false → tot = zrdSimple f (8 * sz) S nb kinds r P l) → (ov = true → tot = none) → zR κ (d + 1) Y_Code_readSimple 10 [some (.inr c), some (.inr 3), some (.inl (nI kinds)), some (.inl (nI k)), none] [] m Q := by
  intro r
  induction r with
  | zero =>
    intro k P ov m l hk hl hs hr hf ht1 ht2
    refine w_Code_readSimple_10 hc ⟨fun _ => hQ 1 m l P ov (Or.inr rfl) hs hr hf (fun _ e => ht1 e) (fun e => ?_), fun q => absurd (nI_le (by omega) (by omega)) q⟩
    rcases e with e | e
    · exact absurd e (by decide)
    · exact ht2 e
  | succ r ih =>
    intro k P ov m l hk hl hs hr hf ht1 ht2
    refine w_Code_readSimple_10 hc ⟨fun q => absurd q (nI_ge (by omega) (by omega)), fun _ => ?_⟩
    rw [hf.2 1 (by decide), h1]
    refine r_take (by omega) hs (fun s P1 ov1 m1 hv hs1 hf1 htk => ⟨nI s, rfl, ?_⟩)
    have hs256 : s < 256 := Nat.lt_of_lt_of_le hv (show 2 ^ nb ≤ 2 ^ 8 from Nat.pow_le_pow_right (by decide) hnb)
    have hr1 : zRaw c S m1 l := zRaw_of (hf1 c (by omega)) (hf1 (c + 1) (by omega)) (hf1 (c + 3) (by omega)) hr
    have hF1 : zFc c m0 m1 := hf.tr (zFc_3 hc11 hf1)
    have hbad : (ov1 = false → S ≤ s ∨ s ∈ l.map Prod.fst) → tot = none := by
      intro hb
      cases ov with
      | true => exact ht2 rfl
      | false =>
        rw [ht1 rfl, zrdSimple]
        rcases htk.2 rfl with ⟨e1, e2⟩ | ⟨e1, e2⟩
        · rw [e1]
          simp only
          rw [if_pos (hb e2)]
        · rw [e1]
    rw [hF1.2 0 (by decide), h0]
    refine ⟨fun q => ?_, fun q => ?_⟩
    · exact hQ 0 m1 l P1 ov1 (Or.inl rfl) hs1 hr1 hF1 (fun e => absurd e (by decide)) (fun _ => hbad (fun _ => Or.inl ((nI_leI (by omega) (by omega)).mp q)))
    · have hsS : s < S := by
        rcases Nat.lt_or_ge s S with z | z
        · exact z
        · exact absurd (nI_le z (by omega)) q
      refine s_isListed hc hr1.1 (by omega) hS ⟨_, rfl, fun q1 => ?_, fun q1 => ?_⟩
      · have hns : s ∉ l.map Prod.fst := by
          intro z
          rw [if_pos z] at q1
          exact absurd q1 (by decide)
        have hfin : ∀ x : Int32, (¬ x = 0 ↔ k = 0) → zR κ (d + 1) Y_Code_readSimple 58 [some (.inr c), some (.inr 3), some (.inl (nI kinds)), some (.inl (nI k)), some (.inl (nI s))] [.inl x, .inl (nI kinds), .inl (nI s), .inr c] m1 Q := by
          intro x hx
          have hdec : decide (¬ x = 0) = decide (r + 1 = kinds) := by
            have h3 : (¬ x = 0) ↔ r + 1 = kinds := by rw [hx]; omega
            exact decide_eq_decide.mpr h3
          refine w_Code_readSimple_58 hc (s_simpleBits (by omega) ⟨_, rfl, ?_⟩)
          have hz6 : zsb kinds (decide (¬ x = 0)) ≤ 6 := by
            unfold zsb
            split
            · split <;> omega
            · omega
          refine s_list (x := nI (zsb kinds (decide (¬ x = 0)))) hc hS hr1.1 (by rw [List.length_map]; omega) hsS (fun m2 g1 g2 g3 g4 g5 => ⟨rfl, ?_⟩)
          rw [nI_1]
          refine ih (k + 1) P1 ov1 m2 (l ++ [(s, zsb kinds (decide (¬ x = 0)))]) (by omega) (by rw [List.length_append, List.length_singleton, hl]) (zS_of hs1 (g1 3 (by omega) (by omega) (by omega)) (g1 4 (by omega) (by omega) (by omega))) (zRaw_add hr1 hns hz6 g3 g4 g5) (hF1.tr ⟨fun q _ a b e => g1 q a b e, g2⟩) (fun e => ?_) (fun e => ?_)
          · cases ov with
            | true => rw [htk.1 rfl] at e; cases e
            | false =>
              rw [ht1 rfl, zrdSimple]
              rcases htk.2 rfl with ⟨e1, e2⟩ | ⟨e1, e2⟩
              · rw [e1]
                simp only
                rw [if_neg (fun z => z.elim (fun z => absurd z (by omega)) hns), hdec]
              · rw [e2] at e; cases e
          · exact hbad (fun e2 => by rw [e2] at e; cases e)
        refine ⟨fun q2 => hfin 0 ⟨fun z => absurd rfl z, fun z => absurd (by rw [z]; rfl) q2⟩, fun q2 => hfin 1 ⟨fun _ => (nI_eq (a := k) (b := 0) (by omega) (by decide)).mp q2, fun _ => by decide⟩⟩
      · have hin : s ∈ l.map Prod.fst := by
          by_cases z : s ∈ l.map Prod.fst
          · exact z
          · rw [if_neg z] at q1; exact absurd rfl q1
        exact hQ 0 m1 l P1 ov1 (Or.inl rfl) hs1 hr1 hF1 (fun e => absurd e (by decide)) (fun _ => hbad (fun _ => Or.inr hin))
theorem s_readSimple {f : Nat → Int32} {sz nb P : Nat} {ov : Bool} {m : zM} (hc : is_Code c S) (hc11 : 11 ≤ c) (hS : S ≤ 256) (hnb : nb ≤ 8) (h0 : m c 0 = nI S) (h1 : m c 1 = nI nb) (hs : zS f sz P ov m) (hr : zRaw c S m [])
    (hQ : ∀ (y : Int32) (m' : zM) (l' : List (Nat × Nat)) (P' : Nat) (ov' : Bool), (y = 0 ∨ y = 1) → zS f sz P' ov' m' → zRaw c S m' l' → zFc c m m' → (y = 1 → ov' = false → ov = false ∧ (match zrd f (8 * sz) P 2 with | none => none | some (k, P2) => zrdSimple f (8 * sz) S nb (k + 1) (k + 1) P2 []) = some (l', P')) → (y = 0 ∨ ov' = true → ov = true ∨ (match zrd f (8 * sz) P 2 with | none => none | some (k, P2) => zrdSimple f (8 * sz) S nb (k + 1) (k + 1) P2 []) = none) → Q (some (.inl y)) m') :
    zR κ (d + 1) Y_Code_readSimple 0 [some (.inr c), some (.inr 3), none, none, none] [] m Q := by
  refine w_Code_readSimple_0 hc (r_take (n := 2) (by decide) hs (fun v P1 ov1 m1 hv hs1 hf1 htk => ⟨nI v, rfl, ?_⟩))
  rw [nI_1]
  have hF1 := zFc_3 hc11 hf1
  refine s_readSimple_loop (m0 := m1) (tot := if ov1 then none else zrdSimple f (8 * sz) S nb (v + 1) (v + 1) P1 []) hc hc11 hS hnb (by omega) (by rw [hF1.2 0 (by decide)]; exact h0) (by rw [hF1.2 1 (by decide)]; exact h1) (fun y m' l' P' ov' a1 a2 a3 a4 a5 a6 => ?_) (v + 1) 0 P1 ov1 m1 [] (by omega) rfl hs1 (zRaw_of (hf1 c (by omega)) (hf1 (c + 1) (by omega)) (hf1 (c + 3) (by omega)) hr) zFc.rf (fun e => by rw [e]; rfl) (fun e => by rw [e]; rfl)
  refine hQ y m' l' P' ov' a1 a2 a3 (hF1.tr a4) (fun b1 b2 => ?_) (fun b1 => ?_)
  · have h9 := a5 b1 b2
    cases ov1 with
    | true => cases h9
    | false =>
      cases ov with
      | true => have := htk.1 rfl; cases this
      | false =>
        refine ⟨rfl, ?_⟩
        rcases htk.2 rfl with ⟨e1, -⟩ | ⟨-, e2⟩
        · rw [e1]; exact h9
        · cases e2
  · have h9 := a6 b1
    cases ov with
    | true => exact Or.inl rfl
    | false =>
      right
      rcases htk.2 rfl with ⟨e1, e2⟩ | ⟨e1, e2⟩
      · rw [e1]
        rw [e2] at h9
        exact h9
      · rw [e1]
end zRead2
