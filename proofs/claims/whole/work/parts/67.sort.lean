/-! the class sorts its listed symbols -/
section zSort
variable {κ : zK} {d : Nat} {Q : Option zV → zM → Prop} {c n : Nat}
/-- a stretch of the listed row -/
def zRow (m : zM) (p i : Nat) (L : List Nat) : Prop := ∀ j, j < L.length → m p (i + j) = nI (L.getD j 0)
theorem zRow_app {m : zM} {p i : Nat} {A B : List Nat} : zRow m p i (A ++ B) ↔ zRow m p i A ∧ zRow m p (i + A.length) B := by
  constructor
  · intro h
    refine ⟨fun j hj => ?_, fun j hj => ?_⟩
    · rw [h j (by rw [List.length_append]; omega), zgd_left _ _ _ hj]
    · have := h (A.length + j) (by rw [List.length_append]; omega)
      rw [zgd_right _ _ _ (by omega), show A.length + j - A.length = j by omega] at this
      rw [show i + A.length + j = i + (A.length + j) by omega]
      exact this
  · intro h j hj
    rw [List.length_append] at hj
    by_cases hjA : j < A.length
    · rw [zgd_left _ _ _ hjA]; exact h.1 j hjA
    · have := h.2 (j - A.length) (by omega)
      rw [show i + A.length + (j - A.length) = i + j by omega] at this
      rw [zgd_right _ _ _ (by omega)]
      exact this
theorem zRow_cons {m : zM} {p i : Nat} {a : Nat} {B : List Nat} : zRow m p i (a :: B) ↔ m p i = nI a ∧ zRow m p (i + 1) B := by
  rw [show a :: B = [a] ++ B from rfl, zRow_app]
  constructor
  · intro h
    exact ⟨by simpa using h.1 0 (by simp), by simpa using h.2⟩
  · intro h
    refine ⟨fun j hj => ?_, by simpa using h.2⟩
    have : j = 0 := by simpa using hj
    subst this
    simpa using h.1
theorem zRow_set {m : zM} {p i k : Nat} {x : Int32} {L : List Nat} (h : zRow m p i L) (hk : k < i ∨ i + L.length ≤ k) : zRow (zms m p k x) p i L := by
  intro j hj
  rw [zms_nk (by omega)]
  exact h j hj
/-- the rank by which it sorts -/
def zrk (bw : Nat → Nat) (s : Nat) : Nat := bw s * 256 + s
theorem s_sort_inner {bw : Nat → Nat} {s : Nat} {x1 : Int32} {C : List Nat} (hc : is_Code c n) (hn : n ≤ 256) (hs : s < n) (hbw : ∀ t, t < n → bw t ≤ 6) : ∀ (len : Nat) (A B : List Nat) (m : zM), A.length = len → A.length + 1 + B.length + C.length ≤ 64 → (∀ t ∈ A, t < n) → (∀ t, t < n → m (c + 3) t = nI (bw t)) → zRow m (c + 1) 0 A → zRow m (c + 1) (A.length + 1) (B ++ C) →
    (∀ (A' B' : List Nat) (m' : zM), A = A' ++ B' → (∀ a, A'.getLast? = some a → zrk bw a ≤ zrk bw s) → (∀ b ∈ B', zrk bw s < zrk bw b) → (∀ q, q ≠ c + 1 → m' q = m q) → zRow m' (c + 1) 0 (A' ++ s :: (B' ++ B ++ C)) → zR κ d Y_Code_sortListed 2 [some (.inr c), some (.inl (x1 + 1)), none, none, none] [] m' Q) →
    zR κ d Y_Code_sortListed 33 [some (.inr c), some (.inl x1), some (.inl (nI s)), some (.inl (nI (zrk bw s))), some (.inl (nI A.length))] [] m Q := by
  have hrk : ∀ t, t < n → zrk bw t < 2048 := fun t ht => by have := hbw t ht; unfold zrk; omega
  intro len
  induction len with
  | zero =>
    intro A B m hl h64 hA hb r1 r2 hQ
    have eA : A = [] := List.length_eq_zero_iff.mp hl
    subst eA
    refine w_Code_sortListed_33 hc ⟨fun _ => ⟨vp_in_nI (by decide) (by decide), ?_⟩, fun q => absurd (by decide) q⟩
    refine hQ [] [] _ rfl (fun a ha => by simp at ha) (fun b hb => by simp at hb) (fun q hq => zms_ne hq) ?_
    rw [List.nil_append, zRow_cons]
    refine ⟨?_, zRow_set (by simpa using r2) (Or.inl (by decide))⟩
    rw [show (nI ([] : List Nat).length).toNatClampNeg = 0 from by decide, zms_ss]
  | succ len ih =>
    intro A B m hl h64 hA hb r1 r2 hQ
    obtain ⟨A1, a, rfl⟩ : ∃ A1 a, A = A1 ++ [a] := ⟨A.dropLast, A.getLast (by intro e; rw [e] at hl; simp at hl), (List.dropLast_concat_getLast _).symm⟩
    have hlen : (A1 ++ [a]).length = A1.length + 1 := by rw [List.length_append, List.length_singleton]
    have han : a < n := hA a (by simp)
    have ha : m (c + 1) A1.length = nI a := by
      have := (zRow_app.mp r1).2 0 (by simp)
      simpa using this
    have hbit := hb a han
    have hra := hrk a han
    have hrs := hrk s hs
    have e1 : nI (A1.length + 1) - 1 = nI A1.length := nI_pred _
    have erk : (nI (bw a) * 256 + nI a : Int32) = nI (zrk bw a) := by
      rw [show (256 : Int32) = nI 256 from rfl, pk_mul, nI_add] <;> rfl
    have hplace : zrk bw a ≤ zrk bw s → vp_in (nI (A1 ++ [a]).length) 64 ∧ zR κ d Y_Code_sortListed 2 [some (.inr c), some (.inl (x1 + 1)), none, none, none] [] (zms m (c + 1) (nI (A1 ++ [a]).length).toNatClampNeg (nI s)) Q := by
      intro hle
      refine ⟨vp_in_nI (by omega) (by decide), ?_⟩
      rw [nI_clamp (by omega)]
      refine hQ (A1 ++ [a]) [] _ (by simp) (fun x hx => ?_) (fun b hb => by simp at hb) (fun q hq => zms_ne hq) ?_
      · have : x = a := by simpa using hx.symm
        rw [this]; exact hle
      · rw [zRow_app, zRow_cons]
        refine ⟨zRow_set r1 (Or.inr (by omega)), ?_, zRow_set (by simpa using r2) (Or.inl (by omega))⟩
        rw [Nat.zero_add, zms_ss]
    refine w_Code_sortListed_33 hc ⟨fun q => absurd q (by rw [hlen]; exact nI_nle (by omega) (by omega)), fun _ => ?_⟩
    rw [hlen, e1, nI_clamp (by omega), ha, nI_clamp (by omega), hbit, erk]
    refine ⟨vp_in_nI (by omega) (by decide), vp_in_nI han (by omega), vp_in_nI (by omega) (by decide), fun q => ?_, fun q => ?_⟩
    · have := hplace ((nI_leI (by omega) (by omega)).mp q)
      rw [hlen] at this
      exact this
    · have hgt : zrk bw s < zrk bw a := by
        rcases Nat.lt_or_ge (zrk bw s) (zrk bw a) with z | z
        · exact z
        · exact absurd (nI_le z (by omega)) q
      refine ⟨vp_in_nI (by omega) (by decide), vp_in_nI (by omega) (by decide), ?_⟩
      rw [nI_clamp (by omega), show nI (A1.length + 1) + (-1) = nI A1.length from pk_m1 _]
      refine ih A1 (a :: B) _ (by omega) (by rw [List.length_cons]; omega) (fun t ht => hA t (List.mem_append_left _ ht)) (fun t ht => by rw [zms_ne (by omega)]; exact hb t ht) (zRow_set (zRow_app.mp r1).1 (Or.inr (by omega))) ?_ (fun A' B' m' f1 f2 f3 f4 f5 => ?_)
      · rw [List.cons_append, zRow_cons]
        refine ⟨zms_ss, ?_⟩
        have := zRow_set (x := nI a) (k := A1.length + 1) r2 (Or.inl (by omega))
        rw [hlen] at this
        exact this
      · refine hQ A' (B' ++ [a]) m' (by rw [f1, List.append_assoc]) f2 (fun b hb => ?_) (fun q hq => by rw [f4 q hq, zms_ne hq]) (by simpa using f5)
        rcases List.mem_append.mp hb with e | e
        · exact f3 b e
        · rw [List.mem_singleton.mp e]; exact hgt
end zSort
section zSort2
variable {κ : zK} {d : Nat} {Q : Option zV → zM → Prop} {c n : Nat}
theorem zrk_inj {bw : Nat → Nat} {a b : Nat} (ha : a < 256) (hb : b < 256) (h : zrk bw a = zrk bw b) : a = b := by
  unfold zrk at h
  omega
theorem zpair_last {bw : Nat → Nat} {s : Nat} : ∀ (A : List Nat), A.Pairwise (fun a b => zrk bw a < zrk bw b) → (∀ a, A.getLast? = some a → zrk bw a ≤ zrk bw s) → ∀ a ∈ A, zrk bw a ≤ zrk bw s := by
  intro A hp hl a ha
  by_cases hA : A = []
  · rw [hA] at ha; simp at ha
  · have e : A = A.dropLast ++ [A.getLast hA] := (List.dropLast_concat_getLast hA).symm
    have h1 := hl (A.getLast hA) (List.getLast?_eq_some_getLast hA)
    rw [e] at ha hp
    rcases List.mem_append.mp ha with z | z
    · have := (List.pairwise_append.mp hp).2.2 a z (A.getLast hA) (by simp)
      omega
    · rw [List.mem_singleton.mp z]; exact h1
theorem s_sortListed {mem : zM} {l : List Nat} {bw : Nat → Nat} (hc : is_Code c n) (hn : n ≤ 256) (h : zLst c n mem l) (hnd : l.Nodup) (hbw : ∀ t, t < n → bw t ≤ 6) (hb : ∀ t, t < n → mem (c + 3) t = nI (bw t)) (hQ : ∀ (l' : List Nat) (m' : zM), l'.Perm l → l'.Pairwise (fun a b => zrk bw a < zrk bw b) → zLst c n m' l' → (∀ q, q ≠ c + 1 → m' q = mem q) → Q none m') : zR κ d Y_Code_sortListed 0 [some (.inr c), none, none, none, none] [] mem Q := by
  obtain ⟨h64, hlt, h6, hl, h0⟩ := h
  have hfin : ∀ (L : List Nat) (m : zM), L.Perm l → zRow m (c + 1) 0 L → (∀ q, q ≠ c + 1 → m q = mem q) → zLst c n m L := by
    intro L m hp hr hf
    refine ⟨by rw [hp.length_eq]; exact h64, fun s hs => hlt s (hp.mem_iff.mp hs), by rw [hf c (by omega), hp.length_eq]; exact h6, fun k hk => by have := hr k hk; rwa [Nat.zero_add] at this, fun s h1 h2 => by rw [hf (c + 3) (by omega)]; exact h0 s h1 (fun e => h2 (hp.mem_iff.mpr e))⟩
  have key : ∀ (r f : Nat) (L : List Nat) (m : zM), l.length ≤ f + r → L.Perm l → (L.take f).Pairwise (fun a b => zrk bw a < zrk bw b) → zRow m (c + 1) 0 L → (∀ q, q ≠ c + 1 → m q = mem q) → f ≤ 65 → zR κ d Y_Code_sortListed 2 [some (.inr c), some (.inl (nI f)), none, none, none] [] m Q := by
    intro r
    induction r with
    | zero =>
      intro f L m hfr hp hs hr hf h65
      refine w_Code_sortListed_2 hc ⟨fun _ => ?_, fun q => absurd (by rw [hf c (by omega), h6]; exact nI_le (by omega) (by omega)) q⟩
      rw [List.take_of_length_le (by rw [hp.length_eq]; omega)] at hs
      exact hQ L m hp hs (hfin L m hp hr hf) hf
    | succ r ih =>
      intro f L m hfr hp hs hr hf h65
      by_cases hfl : l.length ≤ f
      · refine w_Code_sortListed_2 hc ⟨fun _ => ?_, fun q => absurd (by rw [hf c (by omega), h6]; exact nI_le (by omega) (by omega)) q⟩
        rw [List.take_of_length_le (by rw [hp.length_eq]; omega)] at hs
        exact hQ L m hp hs (hfin L m hp hr hf) hf
      · have hL : L.length = l.length := hp.length_eq
        have hfL : f < L.length := by omega
        have hLnd : L.Nodup := hp.nodup_iff.mpr hnd
        have eL : L = L.take f ++ L[f] :: L.drop (f + 1) := by rw [← List.drop_eq_getElem_cons hfL, List.take_append_drop]
        have hsn : L[f] < n := hlt _ (hp.mem_iff.mp (List.getElem_mem hfL))
        have esym : m (c + 1) f = nI L[f] := by
          have := hr f hfL
          rw [Nat.zero_add, zgd_get _ _ hfL] at this
          exact this
        have ebit : m (c + 3) L[f] = nI (bw L[f]) := by rw [hf (c + 3) (by omega)]; exact hb _ hsn
        have hb6 := hbw _ hsn
        have erk : (nI (bw L[f]) * 256 + nI L[f] : Int32) = nI (zrk bw L[f]) := by
          rw [show (256 : Int32) = nI 256 from rfl, pk_mul, nI_add] <;> rfl
        refine w_Code_sortListed_2 hc ⟨fun q => absurd q (by rw [hf c (by omega), h6]; exact nI_ge (by omega) (by omega)), fun _ => ?_⟩
        rw [nI_clamp (by omega), esym, nI_clamp (by omega), ebit, erk]
        refine ⟨vp_in_nI (by omega) (by decide), vp_in_nI hsn (by omega), ?_⟩
        have htl : (L.take f).length = f := by rw [List.length_take]; omega
        have hdl : (L.drop (f + 1)).length = L.length - (f + 1) := List.length_drop
        have hrow := hr
        rw [eL, zRow_app, zRow_cons] at hrow
        have hin := s_sort_inner (κ := κ) (d := d) (Q := Q) (x1 := nI f) (C := L.drop (f + 1)) hc hn hsn hbw f (L.take f) [] m htl (by rw [htl, hdl, List.length_nil]; omega) (fun t ht => hlt t (hp.mem_iff.mp (List.mem_of_mem_take ht))) (fun t ht => by rw [hf (c + 3) (by omega)]; exact hb t ht) hrow.1 (by rw [List.nil_append, htl]; have := hrow.2.2; rw [htl, Nat.zero_add] at this; exact this) (fun A' B' m' f1 f2 f3 f4 f5 => ?_)
        · rw [htl] at hin
          exact hin
        · rw [nI_1]
          have hns : L[f] ∉ L.take f := by
            intro z
            have h9 := hLnd
            rw [eL] at h9
            exact (List.nodup_append.mp h9).2.2 _ z _ List.mem_cons_self rfl
          have hAB := hs
          rw [f1] at hAB hns
          obtain ⟨p1, p2, p3⟩ := List.pairwise_append.mp hAB
          have hlast := zpair_last A' p1 f2
          have h256 : ∀ t, t ∈ L → t < 256 := fun t ht => by have := hlt t (hp.mem_iff.mp ht); omega
          have hAlt : ∀ a ∈ A', zrk bw a < zrk bw L[f] := by
            intro a ha
            have h1 := hlast a ha
            have hmem : a ∈ L := List.mem_of_mem_take (show a ∈ L.take f by rw [f1]; exact List.mem_append_left _ ha)
            rcases Nat.lt_or_ge (zrk bw a) (zrk bw L[f]) with z | z
            · exact z
            · have := zrk_inj (bw := bw) (h256 a hmem) (h256 _ (List.getElem_mem hfL)) (by omega)
              exact absurd (by rw [← this]; exact List.mem_append_left _ ha) hns
          refine ih (f + 1) (A' ++ L[f] :: (B' ++ [] ++ L.drop (f + 1))) m' (by omega) ?_ ?_ f5 (fun q hq => by rw [f4 q hq]; exact hf q hq) (by omega)
          · refine List.Perm.trans ?_ hp
            have e2 : L = (A' ++ B') ++ L[f] :: L.drop (f + 1) := by rw [← f1]; exact eL
            refine List.Perm.trans List.perm_middle ?_
            refine List.Perm.trans ?_ (List.Perm.of_eq e2.symm)
            refine List.Perm.trans ?_ List.perm_middle.symm
            rw [List.append_nil, List.append_assoc]
          · have hlenAB : A'.length + B'.length = f := by rw [← List.length_append, ← f1, htl]
            have e3 : A' ++ L[f] :: (B' ++ [] ++ L.drop (f + 1)) = (A' ++ L[f] :: B') ++ L.drop (f + 1) := by simp
            rw [e3, List.take_append_of_le_length (by rw [List.length_append, List.length_cons]; omega), List.take_of_length_le (by rw [List.length_append, List.length_cons]; omega)]
            refine List.pairwise_append.mpr ⟨p1, List.pairwise_cons.mpr ⟨f3, p2⟩, fun a ha b hb => ?_⟩
            rcases List.mem_cons.mp hb with e | e
            · rw [e]; exact hAlt a ha
            · exact p3 a ha b e
  refine w_Code_sortListed_0 hc ?_
  refine key l.length 1 l mem (by omega) (List.Perm.refl _) ?_ (fun j hj => by rw [Nat.zero_add]; exact hl j hj) (fun _ _ => rfl) (by omega)
  cases l with
  | nil => simp
  | cons a t => simp
end zSort2
