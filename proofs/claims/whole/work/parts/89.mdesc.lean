/-! the reference describes a code -/
section zMdesc
variable {κ : zK} {d : Nat} {Q : Option zV → zM → Prop} {B S nb : Nat} {tm : Nat → Nat}
def zld (tm : Nat → Nat) (S : Nat) (x : Nat) : Bool := decide ((zlst tm S).length = 3) && decide (zcw tm S x = 1)
theorem zlst_lt : (zlst tm S).Pairwise (fun a b => a < b) := List.Pairwise.filter _ List.pairwise_lt_range
theorem zpart_rank {w : Nat → Nat} {v : Nat} {A : List Nat} (h : A.Pairwise (fun a b => a < b)) (hv : ∀ x ∈ A, w x = v) : A.Pairwise (fun a b => zrk w a < zrk w b) := by
  refine List.Pairwise.imp_of_mem (fun {a b} ha hb hab => ?_) h
  unfold zrk
  rw [hv a ha, hv b hb]
  omega
theorem zcw_4 {x : Nat} (h0 : ¬ (zlst tm S).length = 0) (h4 : (zlst tm S).length ≤ 4) (hx : x ∈ zlst tm S) : zcw tm S x = if (zlst tm S).length = 1 then 0 else if (zlst tm S).length = 2 then 1 else if (zlst tm S).length = 3 then (if x = zfr tm (zlst tm S).tail ((zlst tm S).headD 0) then 1 else 2) else 2 := by
  have eA : zL0 tm S = zlst tm S := if_neg h0
  unfold zcw
  rw [if_pos h4]
  show (if x ∈ zL0 tm S then zsb (zL0 tm S).length (decide (x = zfr tm (zL0 tm S).tail ((zL0 tm S).headD 0))) else 0) = _
  rw [eA, if_pos hx, zsb_4 ⟨(zlst tm S).length, by omega⟩ _ h0]
  simp only [decide_eq_true_eq]
theorem zfilter_perm {p : Nat → Bool} : ∀ A : List Nat, (A.filter p ++ A.filter (fun x => !p x)).Perm A := by
  intro A
  induction A with
  | nil => exact List.Perm.refl _
  | cons a A ih =>
    cases hp : p a with
    | true =>
      rw [List.filter_cons_of_pos hp, List.filter_cons_of_neg (by rw [hp]; decide)]
      exact List.Perm.cons a ih
    | false =>
      rw [List.filter_cons_of_neg (by rw [hp]; decide), List.filter_cons_of_pos (by rw [hp]; rfl)]
      exact (List.perm_middle).trans (List.Perm.cons a ih)
theorem zSo_split (hS : S ≤ 256) (hS0 : 0 < S) (h0 : ¬ (zlst tm S).length = 0) (h4 : (zlst tm S).length ≤ 4) : zSo tm S = (zlst tm S).filter (zld tm S) ++ (zlst tm S).filter (fun x => !zld tm S x) := by
  have eA : zL0 tm S = zlst tm S := if_neg h0
  symm
  refine zuniq (zrk (zcw tm S)) _ _ ((zfilter_perm _).trans ?_) ?_ (zSo_pair hS hS0)
  · have := (zSo_perm (tm := tm) (S := S)).symm
    rw [eA] at this
    exact this
  have hlt := zlst_lt (tm := tm) (S := S)
  have hl1 : ∀ x ∈ (zlst tm S).filter (zld tm S), zcw tm S x = 1 ∧ (zlst tm S).length = 3 := by
    intro x hx
    have := (List.mem_filter.mp hx).2
    unfold zld at this
    rw [Bool.and_eq_true, decide_eq_true_iff, decide_eq_true_iff] at this
    exact ⟨this.2, this.1⟩
  have hl2 : ∀ x ∈ (zlst tm S).filter (fun x => !zld tm S x), zcw tm S x = if (zlst tm S).length = 1 then 0 else if (zlst tm S).length = 2 then 1 else 2 := by
    intro x hx
    have hxm := (List.mem_filter.mp hx).1
    have hn := (List.mem_filter.mp hx).2
    have e := zcw_4 h0 h4 hxm
    by_cases h3 : (zlst tm S).length = 3
    · rw [if_neg (by omega), if_neg (by omega), if_pos h3] at e
      rw [if_neg (by omega), if_neg (by omega)]
      have hn1 : ¬ zcw tm S x = 1 := by
        intro g
        unfold zld at hn
        rw [decide_eq_true h3, decide_eq_true g] at hn
        cases hn
      split at e
      · exact absurd e hn1
      · exact e
    · rw [if_neg h3] at e
      exact e
  rw [List.pairwise_append]
  refine ⟨zpart_rank (List.Pairwise.filter _ hlt) (fun x hx => (hl1 x hx).1), zpart_rank (List.Pairwise.filter _ hlt) hl2, fun a ha b hb => ?_⟩
  have e1 := hl1 a ha
  have e2 := hl2 b hb
  rw [if_neg (by omega), if_neg (by omega)] at e2
  have hb256 : b < 256 := Nat.lt_of_lt_of_le (zlst_mem.mp (List.mem_filter.mp hb).1).1 hS
  have ha256 : a < 256 := Nat.lt_of_lt_of_le (zlst_mem.mp (List.mem_filter.mp ha).1).1 hS
  unfold zrk
  rw [e1.1, e2]
  omega
/-- the widths as the reference keeps them -/
def zWd (B S : Nat) (tm : Nat → Nat) (m : zM) : Prop := (∀ s, s < S → s ∈ zL0 tm S → m 73 (B + s) = nI (zcw tm S s)) ∧ ∀ s, s < S → s ∉ zL0 tm S → m 73 (B + s) = -1
theorem m_gap {x1 x2 x4 : Int32} : ∀ (t z : Nat) (m : zM) (bs : List Bool), z ≤ t → z ≤ 256 → bs.length + 3 * z ≤ 4000 → zWM m bs → (∀ m', zWM m' (bs ++ zgp t z) → zF68 m m' → zR κ (d + 1) Y_Mo_full 72 [some (.inr 68), some (.inl x1), some (.inl x2), some (.inl (nI 0)), some (.inl x4), none] [] m' Q) → zR κ (d + 1) Y_Mo_full 29 [some (.inr 68), some (.inl x1), some (.inl x2), some (.inl (nI z)), some (.inl x4), none] [] m Q := by
  -- zeros one by one
  have k72 : ∀ (z : Nat) (m : zM) (bs : List Bool), z < 3 → bs.length + 3 * z ≤ 4000 → zWM m bs → (∀ m', zWM m' (bs ++ List.replicate (3 * z) false) → zF68 m m' → zR κ (d + 1) Y_Mo_full 72 [some (.inr 68), some (.inl x1), some (.inl x2), some (.inl (nI 0)), some (.inl x4), none] [] m' Q) → zR κ (d + 1) Y_Mo_full 72 [some (.inr 68), some (.inl x1), some (.inl x2), some (.inl (nI z)), some (.inl x4), none] [] m Q := by
    intro z
    induction z with
    | zero =>
      intro m bs _ _ hw hQ
      refine hQ m ?_ zF68.rf
      rw [Nat.mul_zero, List.replicate_zero, List.append_nil]
      exact hw
    | succ z ih =>
      intro m bs hz hl hw hQ
      have e0 : (-1 : Int32) = -nI 1 := by decide
      have e : nI (z + 1) + (-1) = nI z := by
        rw [e0, ← Int32.sub_eq_add_neg]
        exact nI_pred z
      refine w_Mo_full_72 ⟨fun g => ?_, fun _ => ?_⟩
      · have := (nI_leI (by omega) (by decide)).mp (show nI (z + 1) ≤ nI 0 from g)
        omega
      rw [e]
      refine s_number (x := 0) (n := 3) (by decide) (by omega) hw (fun m1 g1 g2 => ⟨rfl, ih m1 _ (by omega) (by rw [List.length_append, zbits_length]; omega) g1 (fun m' g3 g4 => hQ m' ?_ (g2.tr g4))⟩)
      rw [zbits_0, List.append_assoc, zrep_app, show 3 + 3 * z = 3 * (z + 1) by omega] at g3
      exact g3
  intro t
  induction t with
  | zero =>
    intro z m bs hz h256 hl hw hQ
    have e : z = 0 := by omega
    subst e
    exact w_Mo_full_29 ⟨fun _ => k72 0 m bs (by decide) hl hw hQ, fun g => absurd (by decide) g⟩
  | succ t ih =>
    intro z m bs hz h256 hl hw hQ
    rw [zgp] at hQ
    refine w_Mo_full_29 ⟨fun g => ?_, fun g => ?_⟩
    · have g := (nI_ltI (by omega) (by decide)).mp (show nI z < nI 3 from g)
      rw [if_pos g] at hQ
      exact k72 z m bs g hl hw hQ
    · have g : 3 ≤ z := by
        rcases Nat.lt_or_ge z 3 with q | q
        · exact absurd (show nI z < nI 3 from nI_lt q (by decide)) g
        · exact q
      rw [if_neg (by omega)] at hQ
      have k46 : zR κ (d + 1) Y_Mo_full 46 [some (.inr 68), some (.inl x1), some (.inl x2), some (.inl (nI z)), some (.inl x4), none] [.inl (nI (min z 18))] m Q := by
        have e3 : nI (min z 18) - 3 = nI (min z 18 - 3) := nI_sub (b := 3) (by omega)
        refine w_Mo_full_46 (s_number (x := 7) (n := 3) (by decide) (by omega) hw (fun m1 g1 g2 => ⟨rfl, ?_⟩))
        rw [e3, nI_sub (by omega)]
        refine s_number (n := 4) (by decide) (by rw [List.length_append, zbits_length]; omega) g1 (fun m2 g3 g4 => ⟨rfl, ih (z - min z 18) m2 _ (by omega) (by omega) (by rw [List.length_append, List.length_append, zbits_length, zbits_length]; omega) g3 (fun m' g5 g6 => hQ m' ?_ ((g2.tr g4).tr g6))⟩)
        rw [List.append_assoc, List.append_assoc] at g5
        rw [List.append_assoc (zbits 7 0 3)]
        exact g5
      refine ⟨fun q => ?_, fun q => ?_⟩
      · have q := (nI_leI (by decide) (by omega)).mp (show nI 18 ≤ nI z from q)
        rw [show min z 18 = 18 by omega] at k46
        exact k46
      · have q : z < 18 := by
          rcases Nat.lt_or_ge z 18 with h | h
          · exact h
          · exact absurd (show nI 18 ≤ nI z from nI_le h (by omega)) q
        rw [show min z 18 = z by omega] at k46
        exact k46
theorem m_full {m : zM} {bs : List Bool} (hBS : B + S ≤ 1024) (hS : S ≤ 256) (h5 : 4 < (zlst tm S).length) (hwd : zWd B S tm m) (hl : bs.length + 3 * S ≤ 4000) (hw : zWM m bs)
    (hQ : ∀ m', zWM m' (bs ++ zfd tm (zcw tm S) S 0 0) → zF68 m m' → Q none m') : zR κ (d + 1) Y_Mo_full 0 [some (.inr 68), some (.inl (nI B)), some (.inl (nI S)), none, none, none] [] m Q := by
  have eA : zL0 tm S = zlst tm S := if_neg (by omega)
  refine w_Mo_full_0 ?_
  have key : ∀ (r s z : Nat) (m1 : zM) (bs1 : List Bool), s + r = S → z ≤ s → bs1.length + 3 * (r + z) ≤ 4000 → zF68 m m1 → zWM m1 bs1 → bs1 ++ zfd tm (zcw tm S) r s z = bs ++ zfd tm (zcw tm S) S 0 0 → zR κ (d + 1) Y_Mo_full 5 [some (.inr 68), some (.inl (nI B)), some (.inl (nI S)), some (.inl (nI z)), some (.inl (nI (B + s))), none] [] m1 Q := by
    intro r
    induction r with
    | zero =>
      intro s z m1 bs1 hs hz hl1 hF hw1 he
      rw [zfd, List.append_nil] at he
      rw [he] at hw1
      refine w_Mo_full_5 ⟨fun _ => hQ m1 hw1 hF, fun g => ?_⟩
      rw [nI_add] at g
      exact absurd (nI_le (by omega) (by omega)) g
    | succ r ih =>
      intro s z m1 bs1 hs hz hl1 hF hw1 he
      have hsS : s < S := by omega
      have e73 : m1 73 = m 73 := hF.1 73 (by decide) (by decide)
      have eB : nI (B + s) + 1 = nI (B + (s + 1)) := nI_1 _
      have hw6 := (zcw_in (tm := tm) (S := S) (s := s)).1
      rw [zfd] at he
      refine w_Mo_full_5 ⟨fun g => ?_, fun _ => ⟨vp_in_nI (by omega) (by decide), ?_⟩⟩
      · rw [nI_add] at g
        exact absurd g (nI_ge (by omega) (by omega))
      rw [nI_clamp (by omega), e73]
      by_cases hp : 0 < tm s
      · have hin : s ∈ zL0 tm S := by rw [eA]; exact zlst_mem.mpr ⟨hsS, hp⟩
        rw [if_pos hp] at he
        have hgl := zgp_len z z
        rw [hwd.1 s hsS hin]
        refine ⟨fun _ => m_gap z z m1 bs1 (Nat.le_refl _) (by omega) (by omega) hw1 (fun m2 g1 g2 => ?_), fun g => absurd (nI_pos' (by omega)) g⟩
        have e73' : m2 73 (B + s) = nI (zcw tm S s) := by rw [g2.1 73 (by decide) (by decide), e73]; exact hwd.1 s hsS hin
        refine w_Mo_full_72 ⟨fun _ => ⟨vp_in_nI (by omega) (by decide), ?_⟩, fun g => absurd (show nI 0 ≤ nI 0 from Int32.le_refl _) g⟩
        rw [nI_clamp (by omega), e73', eB]
        refine s_number (n := 3) (by decide) (by rw [List.length_append]; omega) g1 (fun m3 g3 g4 => ⟨rfl, ih (s + 1) 0 m3 _ (by omega) (by omega) (by rw [List.length_append, List.length_append, zbits_length]; omega) ((hF.tr g2).tr g4) g3 ?_⟩)
        rw [List.append_assoc, List.append_assoc, ← List.append_assoc (zgp z z)]
        exact he
      · have hin : s ∉ zL0 tm S := by rw [eA]; exact fun g => hp (zlst_mem.mp g).2
        rw [if_neg hp] at he
        rw [hwd.2 s hsS hin, eB, nI_1]
        exact ⟨fun g => absurd g (by decide), fun _ => ih (s + 1) (z + 1) m1 bs1 (by omega) (by omega) (by omega) hF hw1 he⟩
  exact key S 0 0 m bs (by omega) (by omega) (by omega) zF68.rf hw rfl
/-- what a description of the reference leaves alone -/
def zFx2 (B S : Nat) (m m' : zM) : Prop := (∀ q, q ≠ 68 → q ≠ 71 → q ≠ 73 → q ≠ 74 → m' q = m q) ∧ (∀ k, k ≠ 8 → m' 68 k = m 68 k) ∧ ∀ i, i < B ∨ B + S ≤ i → m' 73 i = m 73 i ∧ m' 74 i = m 74 i
set_option maxHeartbeats 2000000 in
theorem s_describe {m : zM} {bs : List Bool} (hb : zBase B S nb) (htm : ∀ s, s < S → m 72 (B + s) = nI (tm s)) (htb : ∀ s, tm s ≤ 48) (hsum : ztot tm (zlst tm S) ≤ 48) (hl : bs.length + 3 * S + 35 ≤ 4000) (hw : zWM m bs)
    (hQ : ∀ m', zWM m' (bs ++ zdsc tm S nb) → zWd B S tm m' → (∀ s ∈ zL0 tm S, m' 74 (B + s) = zcv tm S s) → zFx2 B S m m' → Q none m') :
    zR κ (d + 2) Y_Mo_describe 0 [some (.inr 68), some (.inl (nI B)), none, none, none, none, none] [] m Q := by
  obtain ⟨hBS, hS, hnb, hnb1⟩ := zBase_in hb
  have hS14 : 14 ≤ S := by
    rcases hb with h | h | h | h <;> omega
  have hS0 : 0 < S := by omega
  have hlen : (zlst tm S).length ≤ 48 := Nat.le_trans (ztot_pos (fun s hs => (zlst_mem.mp hs).2)) hsum
  refine w_Mo_describe_0 (s_symbolsOf hb ⟨_, rfl, m_weigh hBS hS0 htm htb hsum (fun m1 a1 a2 a3 => ⟨_, rfl, ?_⟩)⟩)
  have hms : zMs B S (zcw tm S) (zSo tm S) m1 := ⟨fun s hs => ⟨zL0_lt hS0 (zSo_perm.mem_iff.mp hs), zcw_in.1, a2 s (zL0_lt hS0 (zSo_perm.mem_iff.mp hs)) (zSo_perm.mem_iff.mp hs)⟩, fun s hs hn => a3 s hs (fun g => hn (zSo_perm.mem_iff.mpr g)), zSo_pair hS hS0⟩
  refine s_assign hBS hS hms (fun m2 b1 b2 b3 => ⟨rfl, ?_⟩)
  have hwd2 : zWd B S tm m2 := by
    unfold zWd
    rw [b1 73 (by decide)]
    exact ⟨a2, a3⟩
  have hcv2 : ∀ s ∈ zL0 tm S, m2 74 (B + s) = zcv tm S s := by
    intro s hs
    have hnd : (zSo tm S).Nodup := zSo_perm.nodup_iff.mpr zL0_nodup
    obtain ⟨k, hk, rfl⟩ := zget_ix (zSo_perm.mem_iff.mpr hs)
    rw [b3 k hk]
    unfold zcv
    rw [zix_get hnd hk]
    exact zwI_congr (fun t ht => a2 t (zL0_lt hS0 (zSo_perm.mem_iff.mp ht)) (zSo_perm.mem_iff.mp ht)) k hk
  have hF2 : zFx2 B S m m2 := ⟨fun q q1 q2 q3 q4 => by rw [b1 q q4]; exact a1.1 q q3, fun k _ => by rw [b1 68 (by decide), a1.1 68 (by decide)], fun i hi => ⟨by rw [b1 73 (by decide)]; exact a1.2 i hi, by rw [b2 i hi, a1.1 74 (by decide)]⟩⟩
  have hw2 : zWM m2 bs := by
    unfold zWM
    rw [b1 68 (by decide), a1.1 68 (by decide), b1 71 (by decide), a1.1 71 (by decide)]
    exact hw
  have htm2 : ∀ s, s < S → m2 72 (B + s) = nI (tm s) := fun s hs => by rw [b1 72 (by decide), a1.1 72 (by decide)]; exact htm s hs
  clear a1 a2 a3 b1 b2 b3 hms
  have fin : ∀ m3, zWM m3 (bs ++ zdsc tm S nb) → zF68 m2 m3 → Q none m3 := by
    intro m3 g1 g2
    refine hQ m3 g1 ?_ (fun s hs => by rw [g2.1 74 (by decide) (by decide)]; exact hcv2 s hs) ⟨fun q q1 q2 q3 q4 => by rw [g2.1 q q1 q2]; exact hF2.1 q q1 q2 q3 q4, fun k hk => by rw [g2.2 k hk]; exact hF2.2.1 k hk, fun i hi => by rw [g2.1 73 (by decide) (by decide), g2.1 74 (by decide) (by decide)]; exact hF2.2.2 i hi⟩
    unfold zWd
    rw [g2.1 73 (by decide) (by decide)]
    exact hwd2
  unfold zdsc at fin
  refine ⟨fun z => ?_, fun z => ?_⟩
  · have z := (nI_ltI (by omega) (by decide)).mp (show nI (zlst tm S).length < nI 5 from z)
    rw [if_pos (show (zlst tm S).length ≤ 4 by omega)] at fin
    have h4 := zL0_len (tm := tm) (S := S) (by omega)
    refine s_number (x := 1) (n := 1) (by decide) (by omega) hw2 (fun m3 g1 g2 => ⟨rfl, ?_⟩)
    -- behind the number of kinds
    have k54 : ∀ s1 : Int32, s1 = nI ((zL0 tm S).length - 1) → zR κ (d + 1 + 1) Y_Mo_describe 54 [some (.inr 68), some (.inl (nI B)), some (.inl (nI S)), some (.inl (nI (zlst tm S).length)), none, none, none] [.inl s1, .inr 68] m3 Q := by
      intro s1 hs1
      subst hs1
      refine w_Mo_describe_54 (s_number (n := 2) (by decide) (by rw [List.length_append, zbits_length]; omega) g1 (fun m4 g3 g4 => ⟨rfl, ?_⟩))
      have hF4 := g2.tr g4
      have hl4 : (bs ++ zbits 1 0 1 ++ zbits (nI ((zL0 tm S).length - 1)) 0 2).length = bs.length + 3 := by
        rw [List.length_append, List.length_append, zbits_length, zbits_length]
      -- one turn through the symbols
      have turn : ∀ (t : Nat) (pp : Nat → Bool), t < 2 → (∀ x, pp x = (zld tm S x == decide (t = 0))) → ∀ (hnx : ∀ (m6 : zM) (bs6 bs5 : List Bool), zF68 m2 m6 → zWM m6 bs6 → bs6.length = bs5.length + nb * ((zlst tm S).filter pp).length → bs6 = bs5 ++ ((zlst tm S).filter pp).flatMap (fun s => zbits (nI s) 0 nb) → bs5.length + 64 ≤ 4000 + 64 → True),
          ∀ (bs5 : List Bool), bs5.length + nb * 4 ≤ 4000 → ∀ (m5 : zM), zF68 m2 m5 → zWM m5 bs5 → (∀ m6, zF68 m2 m6 → zWM m6 (bs5 ++ ((zlst tm S).filter pp).flatMap (fun s => zbits (nI s) 0 nb)) → zR κ (d + 1 + 1) Y_Mo_describe 74 [some (.inr 68), some (.inl (nI B)), some (.inl (nI S)), some (.inl (nI (zlst tm S).length)), some (.inl (nI (t + 1))), none, none] [] m6 Q) → zR κ (d + 1 + 1) Y_Mo_describe 74 [some (.inr 68), some (.inl (nI B)), some (.inl (nI S)), some (.inl (nI (zlst tm S).length)), some (.inl (nI t)), none, none] [] m5 Q := by
        intro t pp ht hpp _ bs5 hl5 m5 hF5 hw5 hend
        have hfl : ((zlst tm S).filter pp).length ≤ 4 := Nat.le_trans (List.length_filter_le _ _) (by omega)
        refine w_Mo_describe_74 ⟨fun g => absurd g (show ¬ nI 2 ≤ nI t from nI_ge ht (by decide)), fun _ => ?_⟩
        have key : ∀ (r s : Nat) (m6 : zM) (bs6 : List Bool), s + r = S → bs6.length + nb * ((zlr tm r s).filter pp).length ≤ 4000 → zF68 m2 m6 → zWM m6 bs6 → bs6 ++ ((zlr tm r s).filter pp).flatMap (fun s => zbits (nI s) 0 nb) = bs5 ++ ((zlst tm S).filter pp).flatMap (fun s => zbits (nI s) 0 nb) → zR κ (d + 1 + 1) Y_Mo_describe 83 [some (.inr 68), some (.inl (nI B)), some (.inl (nI S)), some (.inl (nI (zlst tm S).length)), some (.inl (nI t)), some (.inl (nI (B + s))), none] [] m6 Q := by
          intro r
          induction r with
          | zero =>
            intro s m6 bs6 hs _ hF6 hw6 he
            rw [zlr, List.filter_nil, List.flatMap_nil, List.append_nil] at he
            rw [he] at hw6
            refine w_Mo_describe_83 ⟨fun _ => ?_, fun g => ?_⟩
            · rw [nI_1]
              exact hend m6 hF6 hw6
            · rw [nI_add] at g
              exact absurd (nI_le (by omega) (by omega)) g
          | succ r ih =>
            intro s m6 bs6 hs hl6 hF6 hw6 he
            have hsS : s < S := by omega
            have eB : nI (B + s) + 1 = nI (B + (s + 1)) := nI_1 _
            have e72 : m6 72 (B + s) = nI (tm s) := by rw [hF6.1 72 (by decide) (by decide)]; exact htm2 s hsS
            have e73 : m6 73 = m2 73 := hF6.1 73 (by decide) (by decide)
            have htbs := htb s
            have hin : vp_in (nI (B + s)) 1024 := vp_in_nI (by omega) (by decide)
            rw [zlr] at he hl6
            -- with the lead known
            have k112 : ∀ ld : Bool, (0 < tm s → ld = zld tm S s) → zR κ (d + 1 + 1) Y_Mo_describe 112 [some (.inr 68), some (.inl (nI B)), some (.inl (nI S)), some (.inl (nI (zlst tm S).length)), some (.inl (nI t)), some (.inl (nI (B + s))), none] [.inl (nI ld.toNat)] m6 Q := by
              intro ld hld
              refine w_Mo_describe_112 ?_
              rw [nI_clamp (by omega), e72, eB]
              refine ⟨hin, fun g => ?_, fun g => ?_⟩
              · have g := (nI_leI (by omega) (by decide)).mp (show nI (tm s) ≤ nI 0 from g)
                rw [if_neg (by omega)] at he hl6
                exact ih (s + 1) m6 bs6 (by omega) hl6 hF6 hw6 he
              · have g : 0 < tm s := by
                  rcases Nat.eq_zero_or_pos (tm s) with q | q
                  · exact absurd (show nI (tm s) ≤ nI 0 from by rw [q]; exact Int32.le_refl _) g
                  · exact q
                rw [if_pos g] at he hl6
                have hpps := hpp s
                rw [← hld g] at hpps
                have k136 : ∀ b : Bool, b = decide (t = 0) → zR κ (d + 1 + 1) Y_Mo_describe 136 [some (.inr 68), some (.inl (nI B)), some (.inl (nI S)), some (.inl (nI (zlst tm S).length)), some (.inl (nI t)), some (.inl (nI (B + s))), some (.inl (nI ld.toNat))] [.inl (nI b.toNat), .inl (nI ld.toNat)] m6 Q := by
                  intro b hbt
                  rw [← hbt] at hpps
                  refine w_Mo_describe_136 ?_
                  rw [eB]
                  refine ⟨fun q => ?_, fun q => ?_⟩
                  · have hpf : pp s = false := by
                      rw [hpps]
                      cases ld <;> cases b <;> first | rfl | exact absurd rfl q
                    rw [List.filter_cons_of_neg (by rw [hpf]; decide)] at he hl6
                    exact ih (s + 1) m6 bs6 (by omega) hl6 hF6 hw6 he
                  · have hpt : pp s = true := by
                      rw [hpps]
                      cases ld <;> cases b <;> first | rfl | exact absurd q (by decide)
                    rw [List.filter_cons_of_pos hpt] at he hl6
                    rw [List.flatMap_cons] at he
                    rw [List.length_cons, Nat.mul_add, Nat.mul_one] at hl6
                    refine s_wide hb ⟨_, rfl, ?_⟩
                    have eS : nI (B + s) - nI B = nI s := by rw [nI_sub (by omega), Nat.add_sub_cancel_left]
                    rw [eS]
                    refine s_number (by omega) (by omega) hw6 (fun m7 g5 g6 => ⟨rfl, ih (s + 1) m7 _ (by omega) (by rw [List.length_append, zbits_length]; omega) (hF6.tr g6) g5 ?_⟩)
                    rw [List.append_assoc]
                    exact he
                refine ⟨fun q => k136 false ?_, fun q => k136 true ?_⟩
                · exact (decide_eq_false (fun w => q (by rw [w]; rfl))).symm
                · exact (decide_eq_true ((nI_eq (by omega) (by decide)).mp q)).symm
            refine w_Mo_describe_83 ⟨fun g => ?_, fun _ => ⟨fun g => ?_, fun g => ⟨hin, ?_⟩⟩⟩
            · rw [nI_add] at g
              exact absurd g (nI_ge (by omega) (by omega))
            · refine k112 false (fun _ => ?_)
              unfold zld
              rw [decide_eq_false (fun w => g (by rw [w]; rfl)), Bool.false_and]
            · have g : (zlst tm S).length = 3 := (nI_eq (by omega) (by decide)).mp g
              rw [nI_clamp (by omega), e73]
              have hmem : 0 < tm s → m2 73 (B + s) = nI (zcw tm S s) := fun q => hwd2.1 s hsS (by
                have eA : zL0 tm S = zlst tm S := if_neg (by omega)
                rw [eA]
                exact zlst_mem.mpr ⟨hsS, q⟩)
              have hw6s := (zcw_in (tm := tm) (S := S) (s := s)).1
              refine ⟨fun q => k112 false (fun hp => ?_), fun q => k112 true (fun hp => ?_)⟩
              · unfold zld
                rw [hmem hp] at q
                rw [show decide (zcw tm S s = 1) = false from decide_eq_false (fun w => q (by rw [w]; rfl)), Bool.and_false]
              · unfold zld
                rw [hmem hp] at q
                rw [decide_eq_true g, decide_eq_true ((nI_eq (by omega) (by decide)).mp q)] <;> rfl
        have := key S 0 m5 bs5 (by omega) (by
          rw [← zlst_r]
          have : nb * ((zlst tm S).filter pp).length ≤ nb * 4 := Nat.mul_le_mul_left _ hfl
          omega) hF5 hw5 (by rw [← zlst_r])
        exact this
      -- both turns
      have both : ∀ (m5 : zM) (bs5 : List Bool), bs5.length + nb * 8 ≤ 4000 → zF68 m2 m5 → zWM m5 bs5 → (∀ m6, zF68 m2 m6 → zWM m6 (bs5 ++ ((zlst tm S).filter (zld tm S) ++ (zlst tm S).filter (fun x => !zld tm S x)).flatMap (fun s => zbits (nI s) 0 nb)) → Q none m6) → zR κ (d + 1 + 1) Y_Mo_describe 74 [some (.inr 68), some (.inl (nI B)), some (.inl (nI S)), some (.inl (nI (zlst tm S).length)), some (.inl (nI 0)), none, none] [] m5 Q := by
        intro m5 bs5 hl5 hF5 hw5 hend
        have hfl : ((zlst tm S).filter (zld tm S)).length ≤ 4 := Nat.le_trans (List.length_filter_le _ _) (by omega)
        have hm4 : nb * ((zlst tm S).filter (zld tm S)).length ≤ nb * 4 := Nat.mul_le_mul_left _ hfl
        refine turn 0 (zld tm S) (by decide) (fun x => by cases zld tm S x <;> rfl) (fun _ _ _ _ _ _ _ _ => trivial) bs5 (by omega) m5 hF5 hw5 (fun m6 g5 g6 => ?_)
        refine turn 1 (fun x => !zld tm S x) (by decide) (fun x => by cases zld tm S x <;> rfl) (fun _ _ _ _ _ _ _ _ => trivial) _ (by rw [List.length_append, zflat_len]; omega) m6 g5 g6 (fun m7 g7 g8 => ?_)
        refine w_Mo_describe_74 ⟨fun _ => hend m7 g7 ?_, fun q => absurd (by decide) q⟩
        rw [List.flatMap_append, ← List.append_assoc]
        exact g8
      refine ⟨fun q => ?_, fun q => ?_⟩
      · have q : ¬ (zlst tm S).length = 0 := fun w => q (by rw [w]; rfl)
        refine both m4 _ (by omega) hF4 g3 (fun m6 g5 g6 => fin m6 ?_ g5)
        rw [← zSo_split hS hS0 q (by omega), List.append_assoc, List.append_assoc] at g6
        rw [List.append_assoc (zbits 1 0 1)]
        exact g6
      · have q : (zlst tm S).length = 0 := (nI_eq (by omega) (by decide)).mp q
        have eL : zSo tm S = [0] := by
          have h1 : zL0 tm S = [0] := if_pos q
          have h2 := zSo_perm (tm := tm) (S := S)
          rw [h1] at h2
          exact List.perm_singleton.mp h2
        refine s_wide hb ⟨_, rfl, s_number (x := 0) (by omega) (by omega) g3 (fun m5 g5 g6 => ⟨rfl, ?_⟩)⟩
        refine both m5 _ (by rw [List.length_append, zbits_length]; omega) (hF4.tr g6) g5 (fun m6 g7 g8 => fin m6 ?_ g7)
        rw [List.length_eq_zero_iff.mp q, List.filter_nil, List.filter_nil, List.append_nil, List.flatMap_nil, List.append_nil, List.append_assoc, List.append_assoc] at g8
        rw [eL, List.append_assoc (zbits 1 0 1), List.flatMap_cons, List.flatMap_nil, List.append_nil]
        exact g8
    refine ⟨fun q => k54 _ ?_, fun q => k54 _ ?_⟩
    · have q : ¬ (zlst tm S).length = 0 := fun w => q (by rw [w]; rfl)
      have eA : zL0 tm S = zlst tm S := if_neg q
      rw [eA]
      exact nI_sub (b := 1) (by omega)
    · have q : (zlst tm S).length = 0 := (nI_eq (by omega) (by decide)).mp q
      have eA : zL0 tm S = [0] := if_pos q
      rw [eA] <;> rfl
  · have z : 4 < (zlst tm S).length := by
      rcases Nat.lt_or_ge 4 (zlst tm S).length with g | g
      · exact g
      · exact absurd (show nI (zlst tm S).length < nI 5 from nI_lt (by omega) (by decide)) z
    rw [if_neg (by omega)] at fin
    refine s_number (x := 0) (n := 1) (by decide) (by omega) hw2 (fun m3 g1 g2 => ⟨rfl, ?_⟩)
    have hwd3 : zWd B S tm m3 := by
      unfold zWd
      rw [g2.1 73 (by decide) (by decide)]
      exact hwd2
    refine m_full hBS hS z hwd3 (by rw [List.length_append, zbits_length]; omega) g1 (fun m' g3 g4 => ⟨rfl, fin m' ?_ (g2.tr g4)⟩)
    rw [List.append_assoc] at g3
    exact g3
end zMdesc
