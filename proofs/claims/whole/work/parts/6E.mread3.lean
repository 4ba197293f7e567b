/-! the reference reads a whole description -/
section zMread3
variable {κ : zK} {d : Nat} {Q : Option zV → zM → Prop} {B S nb : Nat}
/-- the reference's table, ready: widths, sorted symbols, words -/
def zMR (B S : Nat) (m : zM) (l : List (Nat × Nat)) (L : List Nat) : Prop := zMw B S m l ∧ L.Perm (l.map Prod.fst) ∧ L.Pairwise (fun a b => zrk (fun s => (m 73 (B + s)).toNatClampNeg) a < zrk (fun s => (m 73 (B + s)).toNatClampNeg) b) ∧ ∀ k, k < L.length → m 74 (B + L.getD k 0) = zwI (fun s => m 73 (B + s)) L k
def zFq (B S : Nat) (m m' : zM) : Prop := (∀ q, q ≠ 68 → q ≠ 73 → q ≠ 74 → m' q = m q) ∧ (∀ i, i ≠ 8 → i ≠ 28 → m' 68 i = m 68 i) ∧ ∀ i, i < B ∨ B + S ≤ i → m' 73 i = m 73 i ∧ m' 74 i = m 74 i
theorem zFm.q {m m' : zM} (h : zFm B S m m') : zFq B S m m' := ⟨fun q a b _ => h.1 q a b, h.2.1, fun i hi => ⟨h.2.2 i hi, by rw [h.1 74 (by decide) (by decide)]⟩⟩
theorem zFq.tr {m m' m'' : zM} (h : zFq B S m m') (h' : zFq B S m' m'') : zFq B S m m'' := ⟨fun q a b c => (h'.1 q a b c).trans (h.1 q a b c), fun i a b => (h'.2.1 i a b).trans (h.2.1 i a b), fun i a => ⟨((h'.2.2 i a).1).trans (h.2.2 i a).1, ((h'.2.2 i a).2).trans (h.2.2 i a).2⟩⟩
set_option maxHeartbeats 1000000 in
theorem s_readCode {f : Nat → Int32} {sz P : Nat} {br : Bool} {m : zM} (hb : zBase B S nb) (hs : zSM f sz P br m)
    (hQ : ∀ (m' : zM) (P' : Nat) (br' : Bool), zSM f sz P' br' m' → zFq B S m m' → (br' = false → br = false ∧ ∃ l L, zrdCode f (8 * sz) S nb P = some (l, P') ∧ zMR B S m' l L) → (br' = true → br = true ∨ zrdCode f (8 * sz) S nb P = none) → Q none m') :
    zR κ (d + 2) Y_Mo_readCode 0 [some (.inr 68), some (.inl (nI B)), none, none, none, none] [] m Q := by
  obtain ⟨hBS, hS, hnb, hnb1⟩ := zBase_in hb
  -- the end: words are given
  have hend : ∀ (x3 : Int32) (m1 : zM) (P1 : Nat) (br1 : Bool), zSM f sz P1 br1 m1 → zFm B S m m1 → (br1 = false → br = false ∧ ∃ l, zMw B S m1 l ∧ zrdCode f (8 * sz) S nb P = some (l, P1)) → (br1 = true → br = true ∨ zrdCode f (8 * sz) S nb P = none) → zR κ (d + 1 + 1) Y_Mo_readCode 166 [some (.inr 68), some (.inl (nI B)), some (.inl (nI S)), some (.inl x3), none, none] [] m1 Q := by
    intro x3 m1 P1 br1 hs1 hf1 ht1 ht2
    have hfr : ∀ m' : zM, (∀ q, q ≠ 74 → m' q = m1 q) → (∀ i, i < B ∨ B + S ≤ i → m' 74 i = m1 74 i) → zFq B S m m' ∧ zSM f sz P1 br1 m' := fun m' g1 g2 => ⟨hf1.q.tr ⟨fun q _ _ c => g1 q c, fun i _ _ => by rw [g1 68 (by decide)], fun i hi => ⟨by rw [g1 73 (by decide)], g2 i hi⟩⟩, zSM_of hs1 (g1 70 (by decide)) (by rw [g1 68 (by decide)]) (by rw [g1 68 (by decide)]) (by rw [g1 68 (by decide)])⟩
    cases br1 with
    | true =>
      refine w_Mo_readCode_166 (s_assign_any hBS (fun m' g1 g2 => ⟨rfl, ?_⟩))
      obtain ⟨a1, a2⟩ := hfr m' g1 g2
      exact hQ m' P1 true a2 a1 (fun e => by cases e) ht2
    | false =>
      obtain ⟨ebr, l, hw, htot⟩ := ht1 rfl
      have hval : ∀ s ∈ l.map Prod.fst, s < S ∧ (m1 73 (B + s)).toNatClampNeg ≤ 6 ∧ m1 73 (B + s) = nI (m1 73 (B + s)).toNatClampNeg := by
        intro s hs'
        obtain ⟨p, hp, e⟩ := List.mem_map.mp hs'
        obtain ⟨z1, z2, z3⟩ := hw.1 p hp
        rw [← e, z3, nI_clamp (by omega)]
        exact ⟨z1, z2, rfl⟩
      obtain ⟨L, hp, hso⟩ := zsorted_ex (zrk (fun s => (m1 73 (B + s)).toNatClampNeg)) (l.map Prod.fst) hw.2.2 (fun a ha b hb' e => zrk_inj (bw := fun s => (m1 73 (B + s)).toNatClampNeg) (by have := (hval a ha).1; omega) (by have := (hval b hb').1; omega) e)
      refine w_Mo_readCode_166 (s_assign (wd := fun s => (m1 73 (B + s)).toNatClampNeg) (L := L) hBS hS ⟨fun s hs' => hval s (hp.mem_iff.mp hs'), fun s h1 h2 => hw.2.1 s h1 (fun z => h2 (hp.mem_iff.mpr z)), hso⟩ (fun m' g1 g2 g3 => ⟨rfl, ?_⟩))
      obtain ⟨a1, a2⟩ := hfr m' g1 g2
      refine hQ m' P1 false a2 a1 (fun _ => ⟨ebr, l, L, htot, zMw_of (g1 73 (by decide)) hw, hp, ?_, ?_⟩) (fun e => by cases e)
      · rw [g1 73 (by decide)]; exact hso
      · rw [g1 73 (by decide)]; exact g3
  -- all widths away
  have hinit : ∀ (r t : Nat) (m1 : zM), t + r = S → zSM f sz P br m1 → zFm B S m m1 → (∀ s, s < t → m1 73 (B + s) = -1) → zR κ (d + 1 + 1) Y_Mo_readCode 7 [some (.inr 68), some (.inl (nI B)), some (.inl (nI S)), some (.inl (nI (B + t))), none, none] [] m1 Q := by
    intro r
    induction r with
    | zero =>
      intro t m1 ht hs1 hf1 hz
      have et : t = S := by omega
      subst et
      refine w_Mo_readCode_7 ⟨fun _ => ?_, fun q => absurd (by rw [nI_add]; exact nI_le (Nat.le_refl _) (by omega)) q⟩
      have hw1 : zMw B t m1 [] := ⟨fun p h => absurd h List.not_mem_nil, fun s h _ => hz s h, List.nodup_nil⟩
      refine r_Mo_take (n := 1) (by decide) hs1 (fun v P2 br2 m2 hv hs2 hg1 hg2 htk => ⟨nI v, rfl, fun q => ?_, fun q => ?_⟩)
      · have hv0 : ¬ v = 1 := fun e => q (by rw [e]; rfl)
        refine s_Mo_readFull_loop (m0 := m1) (tot := if br2 then none else zrdFull f (8 * sz) t (t + 1) 64 0 P2 []) hb (fun x3 m' P' br' b1 b2 b3 b4 => hend x3 m' P' br' b1 (hf1.tr b2) (fun e => ?_) (fun e => ?_)) t 64 0 P2 br2 m2 [] (by omega) (by omega) (by decide) (fun e => by omega) (fun p h => absurd h List.not_mem_nil) hs2 (zFm_tk hg1 hg2) (fun e => ⟨zMw_of (hg1 73 (by decide)) hw1, by rw [e]; rfl⟩) (fun e => by rw [e]; rfl)
        · obtain ⟨l', y1, y2⟩ := b3 e
          cases br2 with
          | true => cases y2
          | false =>
            cases br with
            | true => have := htk.1 rfl; cases this
            | false =>
              refine ⟨rfl, l', y1, ?_⟩
              unfold zrdCode
              rcases htk.2 rfl with ⟨z1, -⟩ | ⟨-, z2⟩
              · rw [z1]
                simp only
                rw [if_neg hv0]
                exact y2
              · cases z2
        · have y := b4 e
          cases br with
          | true => exact Or.inl rfl
          | false =>
            right
            unfold zrdCode
            rcases htk.2 rfl with ⟨z1, z2⟩ | ⟨z1, -⟩
            · rw [z1]
              simp only
              rw [if_neg hv0]
              rw [z2] at y
              exact y
            · rw [z1]
      · have hv1 : v = 1 := (nI_eq (a := v) (b := 1) (by have : v < 2 := hv; omega) (by decide)).mp q
        refine w_Mo_readSimple_0 (r_Mo_take (n := 2) (by decide) hs2 (fun k P3 br3 m3 hk hs3 hj1 hj2 htk3 => ⟨nI k, rfl, ?_⟩))
        have hk4 : k < 4 := hk
        rw [nI_1]
        refine s_Mo_readSimple_loop (m0 := m1) (tot := if br3 then none else zrdSimple f (8 * sz) t nb (k + 1) (k + 1) P3 []) hb (by omega) (by omega) (fun m' P' br' b1 b2 b3 b4 => ⟨rfl, hend _ m' P' br' b1 (hf1.tr b2) (fun e => ?_) (fun e => ?_)⟩) (k + 1) 0 P3 br3 m3 [] (by omega) hs3 ((zFm_tk hg1 hg2).tr (zFm_tk hj1 hj2)) (fun e => ⟨zMw_of (hj1 73 (by decide)) (zMw_of (hg1 73 (by decide)) hw1), by rw [e]; rfl⟩) (fun e => by rw [e]; rfl)
        · obtain ⟨l', y1, y2⟩ := b3 e
          cases br3 with
          | true => cases y2
          | false =>
            have hbr2 : br2 = false := by
              cases br2 with
              | false => rfl
              | true => have := htk3.1 rfl; cases this
            have hbr : br = false := by
              cases br with
              | false => rfl
              | true => have := htk.1 rfl; rw [hbr2] at this; cases this
            refine ⟨hbr, l', y1, ?_⟩
            unfold zrdCode
            rcases htk.2 hbr with ⟨z1, -⟩ | ⟨-, z2⟩
            · rw [z1]
              simp only
              rw [if_pos hv1]
              rcases htk3.2 hbr2 with ⟨x1, -⟩ | ⟨-, x2⟩
              · rw [x1]; exact y2
              · cases x2
            · rw [hbr2] at z2; cases z2
        · have y := b4 e
          cases br with
          | true => exact Or.inl rfl
          | false =>
            right
            unfold zrdCode
            rcases htk.2 rfl with ⟨z1, z2⟩ | ⟨z1, -⟩
            · rw [z1]
              simp only
              rw [if_pos hv1]
              rcases htk3.2 z2 with ⟨x1, x2⟩ | ⟨x1, -⟩
              · rw [x1]
                rw [x2] at y
                exact y
              · rw [x1]
            · rw [z1]
    | succ r ih =>
      intro t m1 ht hs1 hf1 hz
      refine w_Mo_readCode_7 ⟨fun q => absurd q (by rw [nI_add]; exact nI_ge (by omega) (by omega)), fun _ => ⟨vp_in_nI (by omega) (by decide), ?_⟩⟩
      rw [nI_clamp (by omega), show nI (B + t) + 1 = nI (B + (t + 1)) by rw [nI_1]; rfl]
      refine ih (t + 1) _ (by omega) (zSM_of hs1 (zms_ne (by decide)) (by rw [zms_ne (by decide)]) (by rw [zms_ne (by decide)]) (by rw [zms_ne (by decide)])) (hf1.tr ⟨fun q _ b => zms_ne b, fun i _ _ => by rw [zms_ne (by decide)], fun i hi => zms_nk (by omega)⟩) (fun s hs' => ?_)
      by_cases e : s = t
      · subst e; rw [zms_ss]
      · rw [zms_nk (by omega)]; exact hz s (by omega)
  refine w_Mo_readCode_0 (s_symbolsOf hb ⟨_, rfl, ?_⟩)
  have := hinit S 0 m (by omega) hs zFm.rf (fun s h => absurd h (Nat.not_lt_zero s))
  exact this
end zMread3
