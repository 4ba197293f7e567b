/-! the reference reads a description -/
section zMread
variable {κ : zK} {d : Nat} {Q : Option zV → zM → Prop} {B S nb : Nat}
/-- the four tables: base, symbols, bits of a number -/
def zBase (B S nb : Nat) : Prop := (B = 0 ∧ S = 256 ∧ nb = 8) ∨ (B = 256 ∧ S = 256 ∧ nb = 8) ∨ (B = 512 ∧ S = 32 ∧ nb = 5) ∨ (B = 768 ∧ S = 14 ∧ nb = 4)
theorem zBase_in (h : zBase B S nb) : B + S ≤ 1024 ∧ S ≤ 256 ∧ nb ≤ 8 ∧ 1 ≤ nb := by
  unfold zBase at h
  omega
theorem s_wide {m : zM} (h : zBase B S nb) (hQ : Q (some (.inl (nI nb))) m) : zR κ d Y_Mo_wide 0 [some (.inl (nI B))] [] m Q := by
  rcases h with ⟨rfl, rfl, rfl⟩ | ⟨rfl, rfl, rfl⟩ | ⟨rfl, rfl, rfl⟩ | ⟨rfl, rfl, rfl⟩
  · exact w_Mo_wide_0 ⟨fun q => absurd q (by decide), fun _ => hQ⟩
  · exact w_Mo_wide_0 ⟨fun q => absurd q (by decide), fun _ => hQ⟩
  · exact w_Mo_wide_0 ⟨fun _ => ⟨fun q => absurd rfl q, fun _ => hQ⟩, fun q => absurd (by decide) q⟩
  · exact w_Mo_wide_0 ⟨fun _ => ⟨fun _ => hQ, fun q => absurd q (by decide)⟩, fun q => absurd (by decide) q⟩
theorem s_symbolsOf {m : zM} (h : zBase B S nb) (hQ : Q (some (.inl (nI S))) m) : zR κ d Y_Mo_symbolsOf 0 [some (.inl (nI B))] [] m Q := by
  rcases h with ⟨rfl, rfl, rfl⟩ | ⟨rfl, rfl, rfl⟩ | ⟨rfl, rfl, rfl⟩ | ⟨rfl, rfl, rfl⟩
  · exact w_Mo_symbolsOf_0 ⟨fun q => absurd q (by decide), fun _ => hQ⟩
  · exact w_Mo_symbolsOf_0 ⟨fun q => absurd q (by decide), fun _ => hQ⟩
  · exact w_Mo_symbolsOf_0 ⟨fun _ => ⟨fun q => absurd rfl q, fun _ => hQ⟩, fun q => absurd (by decide) q⟩
  · exact w_Mo_symbolsOf_0 ⟨fun _ => ⟨fun _ => hQ, fun q => absurd q (by decide)⟩, fun q => absurd (by decide) q⟩
/-- the widths hold the listed pairs -/
def zMw (B S : Nat) (m : zM) (l : List (Nat × Nat)) : Prop := (∀ p ∈ l, p.1 < S ∧ p.2 ≤ 6 ∧ m 73 (B + p.1) = nI p.2) ∧ (∀ s, s < S → s ∉ l.map Prod.fst → m 73 (B + s) = -1) ∧ (l.map Prod.fst).Nodup
def zFm (B S : Nat) (m m' : zM) : Prop := (∀ q, q ≠ 68 → q ≠ 73 → m' q = m q) ∧ (∀ i, i ≠ 8 → i ≠ 28 → m' 68 i = m 68 i) ∧ ∀ i, i < B ∨ B + S ≤ i → m' 73 i = m 73 i
theorem zFm.rf {m : zM} : zFm B S m m := ⟨fun _ _ _ => rfl, fun _ _ _ => rfl, fun _ _ => rfl⟩
theorem zFm.tr {m m' m'' : zM} (h : zFm B S m m') (h' : zFm B S m' m'') : zFm B S m m'' := ⟨fun q a b => (h'.1 q a b).trans (h.1 q a b), fun i a b => (h'.2.1 i a b).trans (h.2.1 i a b), fun i a => (h'.2.2 i a).trans (h.2.2 i a)⟩
theorem zFm_tk {m m' : zM} (h1 : ∀ q, q ≠ 68 → m' q = m q) (h2 : ∀ i, i ≠ 8 → i ≠ 28 → m' 68 i = m 68 i) : zFm B S m m' := ⟨fun q a _ => h1 q a, h2, fun i _ => by rw [h1 73 (by decide)]⟩
theorem zMw_of {m m' : zM} {l : List (Nat × Nat)} (h : m' 73 = m 73) (hw : zMw B S m l) : zMw B S m' l := by
  unfold zMw at hw ⊢
  rw [h]
  exact hw
theorem zMw_add {m m' : zM} {l : List (Nat × Nat)} {s b : Nat} (hw : zMw B S m l) (hs : s < S) (hb : b ≤ 6) (hn : s ∉ l.map Prod.fst) (he : m' 73 (B + s) = nI b) (ho : ∀ i, i ≠ B + s → m' 73 i = m 73 i) : zMw B S m' (l ++ [(s, b)]) := by
  obtain ⟨h1, h2, h3⟩ := hw
  refine ⟨fun p hp => ?_, fun t ht hnt => ?_, ?_⟩
  · rcases List.mem_append.mp hp with z | z
    · have hne : p.1 ≠ s := fun e => hn (by rw [← e]; exact List.mem_map_of_mem z)
      rw [ho _ (by omega)]
      exact h1 p z
    · rw [List.mem_singleton.mp z]
      exact ⟨hs, hb, he⟩
  · rw [List.map_append] at hnt
    have hts : t ≠ s := fun e => hnt (by rw [e]; simp)
    rw [ho _ (by omega)]
    exact h2 t ht (fun z => hnt (List.mem_append_left _ z))
  · rw [List.map_append, List.nodup_append]
    refine ⟨h3, by simp, fun a ha b hb => ?_⟩
    have : b = s := by simpa using hb
    rw [this]
    exact fun e2 => hn (by rw [← e2]; exact ha)
theorem zSM_br {f : Nat → Int32} {sz P : Nat} {br : Bool} {m : zM} (h : zSM f sz P br m) : zSM f sz P true (zms m 68 28 1) := by
  obtain ⟨a1, a2, a3, a4, a5, a6, a7⟩ := h
  exact ⟨a1, a2, fun i hi => by rw [zms_ne (by decide)]; exact a3 i hi, a4, by rw [zms_nk (by decide)]; exact a5, by rw [zms_nk (by decide)]; exact a6, zms_ss⟩
theorem zFm_br {m : zM} {x : Int32} : zFm B S m (zms m 68 28 x) := ⟨fun q a _ => zms_ne a, fun i _ b => zms_nk b, fun i _ => by rw [zms_ne (by decide)]⟩
set_option maxHeartbeats 1000000 in
theorem s_Mo_readSimple_loop {f : Nat → Int32} {sz kinds : Nat} {tot : Option (List (Nat × Nat) × Nat)} {m0 : zM} (hb : zBase B S nb) (hk4 : kinds ≤ 4) (hk1 : 1 ≤ kinds)
    (hQ : ∀ (m' : zM) (P' : Nat) (br' : Bool), zSM f sz P' br' m' → zFm B S m0 m' → (br' = false → ∃ l', zMw B S m' l' ∧ tot = some (l', P')) → (br' = true → tot = none) → Q none m') :
    ∀ (r k P : Nat) (br : Bool) (m : zM) (l : List (Nat × Nat)), k + r = kinds → zSM f sz P br m → zFm B S m0 m → (br = false → zMw B S m l ∧ tot = zrdSimple f (8 * sz) S nb kinds r P l) → (br = true → tot = none) → zR κ (d + 1) Y_Mo_readSimple 11 [some (.inr 68), some (.inl (nI B)), some (.inl (nI S)), some (.inl (nI kinds)), some (.inl (nI k)), none] [] m Q := by
  obtain ⟨hBS, hS, hnb, hnb1⟩ := zBase_in hb
  intro r
  induction r with
  | zero =>
    intro k P br m l hk hs hf ht1 ht2
    refine w_Mo_readSimple_11 ⟨fun _ => hQ m P br hs hf (fun e => ⟨l, (ht1 e).1, (ht1 e).2⟩) ht2, fun q => absurd (nI_le (by omega) (by omega)) q⟩
  | succ r ih =>
    intro k P br m l hk hs hf ht1 ht2
    refine w_Mo_readSimple_11 ⟨fun q => absurd q (nI_ge (by omega) (by omega)), fun _ => s_wide hb ⟨_, rfl, ?_⟩⟩
    refine r_Mo_take (by omega) hs (fun s P1 br1 m1 hv hs1 hf1 hf2 htk => ⟨nI s, rfl, ?_⟩)
    have hs256 : s < 256 := Nat.lt_of_lt_of_le hv (show 2 ^ nb ≤ 2 ^ 8 from Nat.pow_le_pow_right (by decide) hnb)
    have hF1 : zFm B S m0 m1 := hf.tr (zFm_tk hf1 hf2)
    have e73 : m1 73 = m 73 := hf1 73 (by decide)
    have hbad : (br1 = false → S ≤ s ∨ s ∈ l.map Prod.fst) → tot = none := by
      intro hbd
      cases br with
      | true => exact ht2 rfl
      | false =>
        rw [(ht1 rfl).2, zrdSimple]
        rcases htk.2 rfl with ⟨e1, e2⟩ | ⟨e1, e2⟩
        · rw [e1]
          simp only
          rw [if_pos (hbd e2)]
        · rw [e1]
    have hout : (br1 = false → S ≤ s ∨ s ∈ l.map Prod.fst) → Q none (zms m1 68 28 1) := fun hbd => hQ _ P1 true (zSM_br hs1) (hF1.tr zFm_br) (fun e => by cases e) (fun _ => hbad hbd)
    refine ⟨fun q => hout (fun _ => Or.inl ((nI_leI (by omega) (by omega)).mp q)), fun q => ?_⟩
    have hsS : s < S := by
      rcases Nat.lt_or_ge s S with z | z
      · exact z
      · exact absurd (nI_le z (by omega)) q
    have eadd : nI B + nI s = nI (B + s) := nI_add B s
    have hin : vp_in (nI B + nI s) 1024 := by rw [eadd]; exact vp_in_nI (by omega) (by decide)
    have ecl : (nI B + nI s).toNatClampNeg = B + s := by rw [eadd]; exact nI_clamp (by omega)
    refine ⟨hin, fun q1 => ?_, fun q1 => hout (fun e => Or.inr ?_)⟩
    · rw [ecl] at q1
      have hns : br1 = false → s ∉ l.map Prod.fst := by
        intro e z
        cases br with
        | true => rw [htk.1 rfl] at e; cases e
        | false =>
          obtain ⟨p, hp, e2⟩ := List.mem_map.mp z
          obtain ⟨-, z2, z3⟩ := (ht1 rfl).1.1 p hp
          rw [e73, ← e2, z3] at q1
          exact absurd q1 (nI_pos (by omega))
      have hgo : ∀ w : Nat, w = zsb kinds (decide (r + 1 = kinds)) → w ≤ 6 → vp_in (nI B + nI s) 1024 ∧ zR κ (d + 1) Y_Mo_readSimple 11 [some (.inr 68), some (.inl (nI B)), some (.inl (nI S)), some (.inl (nI kinds)), some (.inl (nI k + 1)), none] [] (zms m1 73 (nI B + nI s).toNatClampNeg (nI w)) Q := by
        intro w hw hw6
        refine ⟨hin, ?_⟩
        rw [ecl, nI_1]
        refine ih (k + 1) P1 br1 _ (l ++ [(s, w)]) (by omega) (zSM_of hs1 (zms_ne (by decide)) (by rw [zms_ne (by decide)]) (by rw [zms_ne (by decide)]) (by rw [zms_ne (by decide)])) (hF1.tr ⟨fun q _ b => zms_ne b, fun i _ _ => by rw [zms_ne (by decide)], fun i hi => zms_nk (by omega)⟩) (fun e => ⟨?_, ?_⟩) (fun e => hbad (fun e2 => by rw [e2] at e; cases e))
        · cases br with
          | true => rw [htk.1 rfl] at e; cases e
          | false => exact zMw_add (zMw_of e73 (ht1 rfl).1) hsS hw6 (hns e) zms_ss (fun i hi => zms_nk hi)
        · cases br with
          | true => rw [htk.1 rfl] at e; cases e
          | false =>
            rw [(ht1 rfl).2, zrdSimple]
            rcases htk.2 rfl with ⟨e1, e2⟩ | ⟨e1, e2⟩
            · rw [e1]
              simp only
              rw [if_neg (fun z => z.elim (fun z => absurd z (by omega)) (hns e)), hw]
            · rw [e2] at e; cases e
      have hk1' : ∀ j : Nat, j < 100 → (nI kinds = nI j ↔ kinds = j) := fun j hj => nI_eq (by omega) (by omega)
      refine ⟨fun q2 => ⟨fun q3 => hgo 1 ?_ (by decide), fun q3 => ⟨fun q4 => hgo 2 ?_ (by decide), fun q4 => ⟨fun q5 => hgo 2 ?_ (by decide), fun q5 => hgo 1 ?_ (by decide)⟩⟩⟩, fun q2 => hgo 0 ?_ (by decide)⟩
      · have : kinds = 2 := (hk1' 2 (by decide)).mp q3
        subst this
        rfl
      · have h1 : ¬ kinds = 1 := fun e => q2 ((hk1' 1 (by decide)).mpr e)
        have h2 : ¬ kinds = 2 := fun e => q3 ((hk1' 2 (by decide)).mpr e)
        have h3 : ¬ kinds = 3 := fun e => q4 ((hk1' 3 (by decide)).mpr e)
        have : kinds = 4 := by omega
        subst this
        rfl
      · have h3 : kinds = 3 := (hk1' 3 (by decide)).mp q4
        have hk0 : ¬ k = 0 := fun e => q5 (by rw [e]; rfl)
        rw [zsb, if_pos h3, decide_eq_false (by omega)] <;> rfl
      · have h3 : kinds = 3 := (hk1' 3 (by decide)).mp q4
        have hk0 : k = 0 := (nI_eq (a := k) (b := 0) (by omega) (by decide)).mp q5
        rw [zsb, if_pos h3, decide_eq_true (by omega)] <;> rfl
      · have : kinds = 1 := (hk1' 1 (by decide)).mp q2
        subst this
        rfl
    · rw [ecl] at q1
      by_cases z : s ∈ l.map Prod.fst
      · exact z
      · cases br with
        | true => rw [htk.1 rfl] at e; cases e
        | false =>
          rw [e73, (ht1 rfl).1.2.1 s hsS z] at q1
          exact absurd (by decide) q1
end zMread
