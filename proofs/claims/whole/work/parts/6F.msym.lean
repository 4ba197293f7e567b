/-! the reference reads a symbol -/
section zMsym
variable {κ : zK} {d : Nat} {Q : Option zV → zM → Prop} {B S nb : Nat}
theorem zneg_nI {b : Nat} (hb : b < 100) : ¬ (-1 : Int32) = nI b := by
  intro e
  have h1 : (nI b).toInt = (b : Int) := nI_toInt (by omega)
  rw [← e] at h1
  have h2 : (-1 : Int32).toInt = -1 := by decide
  omega
/-- a table as it is read: the symbols L, sorted, their widths and words -/
def zTb2 (B S : Nat) (m : zM) (L : List Nat) (wd : Nat → Nat) (wv : Nat → Int32) : Prop := (∀ s ∈ L, s < S ∧ wd s ≤ 6 ∧ m 73 (B + s) = nI (wd s) ∧ m 74 (B + s) = wv s) ∧ (∀ s, s < S → s ∉ L → m 73 (B + s) = -1) ∧ L.Pairwise (fun a b => zrk wd a < zrk wd b)
theorem zfind_least {L : List Nat} {wd : Nat → Nat} {wv : Nat → Int32} {b t : Nat} {w : Int32} (hso : L.Pairwise (fun a b => zrk wd a < zrk wd b)) (ht : t ∈ L) (h1 : wd t = b) (h2 : wv t = w) (hmin : ∀ s, s < t → ¬ (s ∈ L ∧ wd s = b ∧ wv s = w)) : L.find? (fun s => decide (wd s = b ∧ wv s = w)) = some t := by
  cases hf : L.find? (fun s => decide (wd s = b ∧ wv s = w)) with
  | none =>
    have := List.find?_eq_none.mp hf t ht
    simp [h1, h2] at this
  | some a =>
    obtain ⟨hp, as, bs, e, hno⟩ := List.find?_eq_some_iff_append.mp hf
    have hpa : wd a = b ∧ wv a = w := by simpa using hp
    have hmem : a ∈ L := List.mem_of_find?_eq_some hf
    rw [e] at ht
    rcases List.mem_append.mp ht with z | z
    · have := hno t z
      simp [h1, h2] at this
    · rcases List.mem_cons.mp z with z | z
      · rw [z]
      · rw [e] at hso
        have h3 := (List.pairwise_cons.mp (List.pairwise_append.mp hso).2.1).1 t z
        unfold zrk at h3
        rw [hpa.1, h1] at h3
        exact absurd ⟨hmem, hpa⟩ (hmin a (by omega))
set_option maxHeartbeats 1000000 in
theorem s_readSymbol {f : Nat → Int32} {sz P : Nat} {br : Bool} {m : zM} {L : List Nat} {wd : Nat → Nat} {wv : Nat → Int32} (hb : zBase B S nb) (hs : zSM f sz P br m) (ht : br = false → zTb2 B S m L wd wv ∧ (L.length = 1 → wd (L.getD 0 0) = 0 ∧ wv (L.getD 0 0) = 0) ∧ (¬ L.length = 1 → ∀ s ∈ L, 1 ≤ wd s))
    (hQ : ∀ (y : Int32) (P' : Nat) (br' : Bool) (m' : zM), (∃ s, s < S ∧ y = nI s) → zSM f sz P' br' m' → (∀ q, q ≠ 68 → m' q = m q) → (∀ i, i ≠ 7 → i ≠ 8 → i ≠ 28 → m' 68 i = m 68 i) → (br' = false → br = false ∧ m' 68 7 = m 68 7 + 1 ∧ (∃ s ∈ L, y = nI s) ∧ zrdSym f (8 * sz) L wd wv P = some (y, P')) → (br' = true → br = true ∨ zrdSym f (8 * sz) L wd wv P = none ∨ ∃ P1, zrdSym f (8 * sz) L wd wv P = some (-1, P1)) → Q (some (.inl y)) m') :
    zR κ (d + 1) Y_Mo_readSymbol 0 [some (.inr 68), some (.inl (nI B)), none, none, none, none] [] m Q := by
  obtain ⟨hBS, hS, hnb, hnb1⟩ := zBase_in hb
  have hS0 : 0 < S := by
    rcases hb with h | h | h | h <;> omega
  have hbrk : ∀ (P1 : Nat) (br1 : Bool) (m1 : zM), zSM f sz P1 br1 m1 → (∀ q, q ≠ 68 → m1 q = m q) → (∀ i, i ≠ 7 → i ≠ 8 → i ≠ 28 → m1 68 i = m 68 i) → (br = true ∨ zrdSym f (8 * sz) L wd wv P = none ∨ ∃ P1, zrdSym f (8 * sz) L wd wv P = some (-1, P1)) → Q (some (.inl 0)) (zms m1 68 28 1) :=
    fun P1 br1 m1 h1 h2 h3 h4 => hQ 0 P1 true _ ⟨0, hS0, rfl⟩ (zSM_br h1) (fun q hq => by rw [zms_ne hq]; exact h2 q hq) (fun i a b c => by rw [zms_nk c]; exact h3 i a b c) (fun e => by cases e) (fun _ => h4)
  -- one width, all symbols
  have inner : ∀ (b P1 : Nat) (w : Int32) (m1 : zM), b ≤ 6 → br = false → zSM f sz P1 false m1 → (∀ q, q ≠ 68 → m1 q = m q) → (∀ i, i ≠ 8 → i ≠ 28 → m1 68 i = m 68 i) →
      (∀ s, L.find? (fun s => decide (wd s = b ∧ wv s = w)) = some s → zrdSym f (8 * sz) L wd wv P = some (nI s, P1)) →
      (L.find? (fun s => decide (wd s = b ∧ wv s = w)) = none → zR κ (d + 1) Y_Mo_readSymbol 10 [some (.inr 68), some (.inl (nI B)), some (.inl (nI S)), some (.inl w), some (.inl (nI (b + 1))), none] [] m1 Q) →
      ∀ (r t : Nat), t + r = S → (∀ s, s < t → ¬ (s ∈ L ∧ wd s = b ∧ wv s = w)) → zR κ (d + 1) Y_Mo_readSymbol 46 [some (.inr 68), some (.inl (nI B)), some (.inl (nI S)), some (.inl w), some (.inl (nI b)), some (.inl (nI t))] [] m1 Q := by
    intro b P1 w m1 hb6 ebr hs1 hf1 hf2 hfd hno
    obtain ⟨⟨g1, g2, g3⟩, -, -⟩ := ht ebr
    have e73 : m1 73 = m 73 := hf1 73 (by decide)
    have e74 : m1 74 = m 74 := hf1 74 (by decide)
    intro r
    induction r with
    | zero =>
      intro t htS hmin
      refine w_Mo_readSymbol_46 ⟨fun _ => ?_, fun q => absurd (nI_le (by omega) (by omega)) q⟩
      rw [nI_1]
      refine hno (List.find?_eq_none.mpr (fun s hs' => ?_))
      have := hmin s (by have := (g1 s hs').1; omega)
      have h9 : ¬ (wd s = b ∧ wv s = w) := fun z => this ⟨hs', z⟩
      simpa using h9
    | succ r ih =>
      intro t htS hmin
      have eadd : nI B + nI t = nI (B + t) := nI_add B t
      have hin : vp_in (nI B + nI t) 1024 := by rw [eadd]; exact vp_in_nI (by omega) (by decide)
      have ecl : (nI B + nI t).toNatClampNeg = B + t := by rw [eadd]; exact nI_clamp (by omega)
      have hnext : ¬ (t ∈ L ∧ wd t = b ∧ wv t = w) → zR κ (d + 1) Y_Mo_readSymbol 46 [some (.inr 68), some (.inl (nI B)), some (.inl (nI S)), some (.inl w), some (.inl (nI b)), some (.inl (nI t + 1))] [] m1 Q := by
        intro hn
        rw [nI_1]
        refine ih (t + 1) (by omega) (fun s hs' => ?_)
        by_cases e : s = t
        · subst e; exact hn
        · exact hmin s (by omega)
      refine w_Mo_readSymbol_46 ⟨fun q => absurd q (nI_ge (by omega) (by omega)), fun _ => ⟨hin, ?_⟩⟩
      rw [ecl, e73, e74]
      refine ⟨fun q => hnext (fun z => q ?_), fun q => ⟨hin, fun q1 => hnext (fun z => q1 ?_), fun q1 => ?_⟩⟩
      · rw [(g1 t z.1).2.2.1, z.2.1]
      · rw [(g1 t z.1).2.2.2, z.2.2]
      · have htL : t ∈ L := by
          by_cases z : t ∈ L
          · exact z
          · rw [g2 t (by omega) z] at q
            exact absurd q (zneg_nI (by omega))
        obtain ⟨a1, a2, a3, a4⟩ := g1 t htL
        have hwt : wd t = b := by
          rw [a3] at q
          exact (nI_eq (by omega) (by omega)).mp q
        have hwv : wv t = w := by rw [← a4]; exact q1
        obtain ⟨s1, s2, s3, s4, s5, s6, s7⟩ := hs1
        refine hQ (nI t) P1 false _ ⟨t, by omega, rfl⟩ ⟨s1, s2, fun i hi => by rw [zms_ne (by decide)]; exact s3 i hi, s4, by rw [zms_nk (by decide)]; exact s5, by rw [zms_nk (by decide)]; exact s6, by rw [zms_nk (by decide)]; exact s7⟩ (fun q hq => by rw [zms_ne hq]; exact hf1 q hq) (fun i a b c => by rw [zms_nk a]; exact hf2 i b c) (fun _ => ⟨ebr, by rw [zms_ss, hf2 7 (by decide) (by decide)], ⟨t, htL, rfl⟩, hfd t (zfind_least g3 htL hwt hwv hmin)⟩) (fun e => by cases e)
  -- widths 1 to 6
  have key : ∀ (r b P1 : Nat) (w : Int32) (br1 : Bool) (m1 : zM), b + r = 7 → 1 ≤ b → zSM f sz P1 br1 m1 → (∀ q, q ≠ 68 → m1 q = m q) → (∀ i, i ≠ 8 → i ≠ 28 → m1 68 i = m 68 i) → (br1 = false → br = false ∧ zrdSym f (8 * sz) L wd wv P = zsy f (8 * sz) L wd wv r b w P1) → (br1 = true → br = true ∨ zrdSym f (8 * sz) L wd wv P = none) → zR κ (d + 1) Y_Mo_readSymbol 10 [some (.inr 68), some (.inl (nI B)), some (.inl (nI S)), some (.inl w), some (.inl (nI b)), none] [] m1 Q := by
    intro r
    induction r with
    | zero =>
      intro b P1 w br1 m1 hbr hb1 hs1 hf1 hf2 t1 t2
      have eb : b = 7 := by omega
      subst eb
      refine w_Mo_readSymbol_10 ⟨fun _ => hbrk P1 br1 m1 hs1 hf1 (fun i _ b c => hf2 i b c) ?_, fun q => absurd (by decide) q⟩
      cases br1 with
      | true => exact (t2 rfl).imp id Or.inl
      | false => exact Or.inr (Or.inr ⟨P1, by rw [(t1 rfl).2, zsy]⟩)
    | succ r ih =>
      intro b P1 w br1 m1 hbr hb1 hs1 hf1 hf2 t1 t2
      have e28 : m1 68 28 = nI br1.toNat := hs1.2.2.2.2.2.2
      refine w_Mo_readSymbol_10 ⟨fun q => absurd q (show ¬ nI 6 < nI b from nI_nlt (by omega) (by decide)), fun _ => ⟨fun q => hbrk P1 br1 m1 hs1 hf1 (fun i _ b c => hf2 i b c) ((t2 (zbr_true e28 q)).imp id Or.inl), fun q => ⟨fun _ => ?_, fun q1 => absurd ((nI_eq (a := b) (b := 0) (by omega) (by decide)).mp q1) (by omega)⟩⟩⟩
      have ebr1 := zbr_false e28 q
      subst ebr1
      obtain ⟨ebr, htot⟩ := t1 rfl
      refine r_Mo_take (n := 1) (by decide) hs1 (fun v P2 br2 m2 hv hs2 hj1 hj2 htk => ⟨nI v, rfl, ?_⟩)
      have hfm : ∀ q, q ≠ 68 → m2 q = m q := fun q hq => by rw [hj1 q hq]; exact hf1 q hq
      have hfi : ∀ i, i ≠ 8 → i ≠ 28 → m2 68 i = m 68 i := fun i a b => by rw [hj2 i a b]; exact hf2 i a b
      cases br2 with
      | true =>
        -- the stream has ended: all symbols once more, then broken
        have hnone : zrdSym f (8 * sz) L wd wv P = none := by
          rcases htk.2 rfl with ⟨-, z⟩ | ⟨z, -⟩
          · cases z
          · rw [htot, zsy, z]
        have hall : ∀ (r t : Nat), t + r = S → zR κ (d + 1) Y_Mo_readSymbol 46 [some (.inr 68), some (.inl (nI B)), some (.inl (nI S)), some (.inl (2 * w + nI v)), some (.inl (nI b)), some (.inl (nI t))] [] m2 Q := by
          intro r'
          induction r' with
          | zero =>
            intro t htS
            refine w_Mo_readSymbol_46 ⟨fun _ => ?_, fun q => absurd (nI_le (by omega) (by omega)) q⟩
            rw [nI_1]
            exact ih (b + 1) P2 _ true m2 (by omega) (by omega) hs2 hfm hfi (fun e => by cases e) (fun _ => Or.inr hnone)
          | succ r' ih' =>
            intro t htS
            have eadd : nI B + nI t = nI (B + t) := nI_add B t
            have hin : vp_in (nI B + nI t) 1024 := by rw [eadd]; exact vp_in_nI (by omega) (by decide)
            have hn := ih' (t + 1) (by omega)
            rw [← nI_1] at hn
            obtain ⟨s1, s2, s3, s4, s5, s6, s7⟩ := hs2
            refine w_Mo_readSymbol_46 ⟨fun q => absurd q (nI_ge (by omega) (by omega)), fun _ => ⟨hin, fun _ => hn, fun _ => ⟨hin, fun _ => hn, fun _ => ?_⟩⟩⟩
            exact hQ (nI t) P2 true _ ⟨t, by omega, rfl⟩ ⟨s1, s2, fun i hi => by rw [zms_ne (by decide)]; exact s3 i hi, s4, by rw [zms_nk (by decide)]; exact s5, by rw [zms_nk (by decide)]; exact s6, by rw [zms_nk (by decide)]; exact s7⟩ (fun q hq => by rw [zms_ne hq]; exact hfm q hq) (fun i a b c => by rw [zms_nk a]; exact hfi i b c) (fun e => by cases e) (fun _ => Or.inr (Or.inl hnone))
        exact hall S 0 (by omega)
      | false =>
        have hz : zrd f (8 * sz) P1 1 = some (v, P2) := by
          rcases htk.2 rfl with ⟨z, -⟩ | ⟨-, z⟩
          · exact z
          · cases z
        refine inner b P2 (2 * w + nI v) m2 (by omega) ebr hs2 hfm hfi (fun s hfd => ?_) (fun hno => ?_) S 0 (by omega) (fun s h => absurd h (Nat.not_lt_zero s))
        · rw [htot, zsy, hz]
          simp only
          rw [hfd]
        · refine ih (b + 1) P2 _ false m2 (by omega) (by omega) hs2 hfm hfi (fun _ => ⟨ebr, ?_⟩) (fun e => by cases e)
          rw [htot, zsy, hz]
          simp only
          rw [hno]
  refine w_Mo_readSymbol_0 (s_symbolsOf hb ⟨_, rfl, ?_⟩)
  have e28 : m 68 28 = nI br.toNat := hs.2.2.2.2.2.2
  refine w_Mo_readSymbol_10 ⟨fun q => absurd q (by decide), fun _ => ⟨fun q => hbrk P br m hs (fun _ _ => rfl) (fun _ _ _ _ => rfl) (Or.inl (zbr_true e28 q)), fun q => ⟨fun q1 => absurd rfl q1, fun _ => ?_⟩⟩⟩
  have ebr := zbr_false e28 q
  subst ebr
  obtain ⟨⟨g1, g2, g3⟩, hone, hmany⟩ := ht rfl
  refine inner 0 P 0 m (by decide) rfl hs (fun _ _ => rfl) (fun _ _ _ => rfl) (fun s hfd => ?_) (fun hno => ?_) S 0 (by omega) (fun s h => absurd h (Nat.not_lt_zero s))
  · have hmem := List.mem_of_find?_eq_some hfd
    have hps : wd s = 0 ∧ wv s = 0 := by simpa using List.find?_some hfd
    have h1 : L.length = 1 := by
      by_cases z : L.length = 1
      · exact z
      · have := hmany z s hmem
        omega
    obtain ⟨a, ea⟩ := List.length_eq_one_iff.mp h1
    rw [zrdSym, if_pos h1]
    subst ea
    have : s = a := by simpa using hmem
    subst this
    rfl
  · have h1 : ¬ L.length = 1 := by
      intro z
      obtain ⟨w1, w2⟩ := hone z
      have hm : L.getD 0 0 ∈ L := zget_mem (by omega)
      have := List.find?_eq_none.mp hno _ hm
      exact absurd (decide_eq_true (And.intro w1 w2)) this
    refine key 6 1 P 0 false m (by omega) (by omega) hs (fun _ _ => rfl) (fun _ _ _ => rfl) (fun _ => ⟨rfl, ?_⟩) (fun e => by cases e)
    rw [zrdSym, if_neg h1]
end zMsym
