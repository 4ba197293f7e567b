/-! the class reads a code word -/
section zWord1
variable {κ : zK} {d : Nat} {Q : Option zV → zM → Prop} {c S : Nat}
/-- a code word, bit by bit: the first listed symbol with as many bits and this word; -1 if none -/
def zsy (f : Nat → Int32) (N : Nat) (L : List Nat) (wd : Nat → Nat) (wv : Nat → Int32) : Nat → Nat → Int32 → Nat → Option (Int32 × Nat)
  | 0, _, _, P => some (-1, P)
  | r + 1, b, w, P => match zrd f N P 1 with
    | none => none
    | some (v, P1) => match L.find? (fun s => decide (wd s = b ∧ wv s = 2 * w + nI v)) with
      | some s => some (nI s, P1)
      | none => zsy f N L wd wv r (b + 1) (2 * w + nI v) P1
def zrdSym (f : Nat → Int32) (N : Nat) (L : List Nat) (wd : Nat → Nat) (wv : Nat → Int32) (P : Nat) : Option (Int32 × Nat) := if L.length = 1 then some (nI (L.getD 0 0), P) else zsy f N L wd wv 6 1 0 P
theorem s_readWord_in {m : zM} {L : List Nat} {wd : Nat → Nat} {b : Nat} {w : Int32} (hc : is_Code c S) (hS : S ≤ 256) (hl : zLst c S m L) (hb : ∀ s, s < S → m (c + 3) s = nI (wd s)) (hw6 : ∀ s, wd s ≤ 6) (hso : L.Pairwise (fun x y => wd x ≤ wd y)) (hb6 : b ≤ 6)
    (hfd : ∀ s, L.find? (fun s => decide (wd s = b ∧ m (c + 4) s = w)) = some s → Q (some (.inl (nI s))) m)
    (hno : L.find? (fun s => decide (wd s = b ∧ m (c + 4) s = w)) = none → ∀ j, j ≤ L.length → (∀ s ∈ L.take j, wd s < b + 1) → (∀ s ∈ L.drop j, b + 1 ≤ wd s) → zR κ (d + 1) Y_Code_readWord 22 [some (.inr c), some (.inr 3), some (.inl w), some (.inl (nI j)), some (.inl (nI (b + 1)))] [] m Q) :
    ∀ (r j : Nat), j + r = L.length → (∀ s ∈ L.take j, wd s < b + 1) → (∀ s ∈ L.drop j, b ≤ wd s) → (∀ s ∈ L.take j, ¬ (wd s = b ∧ m (c + 4) s = w)) → zR κ (d + 1) Y_Code_readWord 39 [some (.inr c), some (.inr 3), some (.inl w), some (.inl (nI j)), some (.inl (nI b))] [] m Q := by
  obtain ⟨h64, hlt, h6, hrow, -⟩ := hl
  intro r
  induction r with
  | zero =>
    intro j hj hA hB hC
    have ej : j = L.length := by omega
    refine w_Code_readWord_39 hc ⟨fun _ => ?_, fun q => absurd (by rw [h6, ej]; exact nI_le (Nat.le_refl _) (by omega)) q⟩
    rw [nI_1]
    refine hno ?_ j (by omega) hA (fun s hs => by rw [ej, List.drop_length] at hs; exact absurd hs List.not_mem_nil)
    rw [List.find?_eq_none]
    intro s hs
    have := hC s (by rw [ej, List.take_length]; exact hs)
    simpa using this
  | succ r ih =>
    intro j hj hA hB hC
    have hjl : j < L.length := by omega
    have es := hrow j hjl
    rw [zgd_get _ _ hjl] at es
    have hs := hlt _ (List.getElem_mem hjl)
    have ebit := hb _ hs
    have hwj := hw6 L[j]
    have hdr : L.drop j = L[j] :: L.drop (j + 1) := List.drop_eq_getElem_cons hjl
    have htk : L.take (j + 1) = L.take j ++ [L[j]] := List.take_succ_eq_append_getElem hjl
    have hge : b ≤ wd L[j] := hB _ (by rw [hdr]; exact List.mem_cons_self)
    refine w_Code_readWord_39 hc ⟨fun q => absurd q (by rw [h6]; exact nI_ge (by omega) (by omega)), fun _ => ?_⟩
    rw [nI_clamp (by omega), es, nI_clamp (by omega), ebit]
    refine ⟨vp_in_nI (by omega) (by decide), vp_in_nI hs (by omega), fun q => ?_, fun q => ⟨vp_in_nI (by omega) (by decide), vp_in_nI hs (by omega), fun q1 => ?_, fun q1 => ⟨vp_in_nI (by omega) (by decide), ?_⟩⟩⟩
    · have hgt : b + 1 ≤ wd L[j] := by
        rcases Nat.lt_or_ge b (wd L[j]) with z | z
        · exact z
        · exact absurd (by rw [show wd L[j] = b by omega]) q
      have hall : ∀ s ∈ L.drop j, b + 1 ≤ wd s := by
        intro s hs'
        rw [hdr] at hs'
        rcases List.mem_cons.mp hs' with e | e
        · rw [e]; exact hgt
        · have hp : (L.drop j).Pairwise (fun x y => wd x ≤ wd y) := hso.drop
          rw [hdr, List.pairwise_cons] at hp
          have := hp.1 s e
          omega
      rw [nI_1]
      refine hno ?_ j (by omega) hA hall
      rw [List.find?_eq_none]
      intro s hs'
      have hmem : s ∈ L.take j ++ L.drop j := by rw [List.take_append_drop]; exact hs'
      rcases List.mem_append.mp hmem with e | e
      · have := hC s e
        simpa using this
      · have := hall s e
        have h9 : ¬ (wd s = b ∧ m (c + 4) s = w) := fun z => by have := z.1; omega
        simpa using h9
    · have eb : wd L[j] = b := (nI_eq (by omega) (by omega)).mp q
      rw [nI_1]
      refine ih (j + 1) (by omega) (fun s hs' => ?_) (fun s hs' => hB s (by rw [hdr]; exact List.mem_cons_of_mem _ hs')) (fun s hs' => ?_)
      · rw [htk] at hs'
        rcases List.mem_append.mp hs' with e | e
        · exact hA s e
        · rw [List.mem_singleton.mp e]; omega
      · rw [htk] at hs'
        rcases List.mem_append.mp hs' with e | e
        · exact hC s e
        · rw [List.mem_singleton.mp e]
          exact fun z => q1 z.2
    · have eb : wd L[j] = b := (nI_eq (by omega) (by omega)).mp q
      refine hfd L[j] ?_
      have hL : L = L.take j ++ L[j] :: L.drop (j + 1) := by rw [← hdr, List.take_append_drop]
      have h1 : (L.take j).find? (fun s => decide (wd s = b ∧ m (c + 4) s = w)) = none := by
        rw [List.find?_eq_none]
        intro s hs'
        have := hC s hs'
        simpa using this
      have h2 : (L.take j ++ L[j] :: L.drop (j + 1)).find? (fun s => decide (wd s = b ∧ m (c + 4) s = w)) = some L[j] := by
        rw [List.find?_append, h1, List.find?_cons_of_pos (by simp [eb, q1])] <;> rfl
      rw [← hL] at h2
      exact h2
theorem s_readWord {f : Nat → Int32} {sz P : Nat} {ov : Bool} {m : zM} {L : List Nat} {wd : Nat → Nat} (hc : is_Code c S) (hc11 : 11 ≤ c) (hS : S ≤ 256) (hl : zLst c S m L) (hne : L ≠ []) (hb : ∀ s, s < S → m (c + 3) s = nI (wd s)) (hw6 : ∀ s, wd s ≤ 6) (hw1 : ¬ L.length = 1 → ∀ s ∈ L, 1 ≤ wd s) (hso : L.Pairwise (fun x y => wd x ≤ wd y)) (hs : zS f sz P ov m)
    (hQ : ∀ (y : Int32) (P' : Nat) (ov' : Bool) (m' : zM), (y = -1 ∨ ∃ s ∈ L, y = nI s) → zS f sz P' ov' m' → (∀ q, q ≠ 3 → m' q = m q) → (ov = true → ov' = true) → (ov = false → (zrdSym f (8 * sz) L wd (m (c + 4)) P = some (y, P') ∧ ov' = false) ∨ (zrdSym f (8 * sz) L wd (m (c + 4)) P = none ∧ ov' = true)) → Q (some (.inl y)) m') :
    zR κ (d + 1) Y_Code_readWord 0 [some (.inr c), some (.inr 3), none, none, none] [] m Q := by
  have hl' := hl
  obtain ⟨h64, hlt, h6, hrow, hz⟩ := hl
  have hpos : 0 < L.length := List.length_pos_iff.mpr hne
  refine w_Code_readWord_0 hc ⟨fun q => ?_, fun q => ?_⟩
  · have h1 : ¬ L.length = 1 := fun e => q (by rw [h6, e]; rfl)
    -- the bits, one by one
    have key : ∀ (r b P1 : Nat) (w : Int32) (ov1 : Bool) (m1 : zM) (j : Nat), b + r = 7 → zS f sz P1 ov1 m1 → (∀ q, q ≠ 3 → m1 q = m q) → j ≤ L.length → (∀ s ∈ L.take j, wd s < b) → (∀ s ∈ L.drop j, b ≤ wd s) → (ov = true → ov1 = true) → (ov = false → (ov1 = false ∧ zrdSym f (8 * sz) L wd (m (c + 4)) P = zsy f (8 * sz) L wd (m (c + 4)) r b w P1) ∨ (zrdSym f (8 * sz) L wd (m (c + 4)) P = none ∧ ov1 = true)) → zR κ (d + 1) Y_Code_readWord 22 [some (.inr c), some (.inr 3), some (.inl w), some (.inl (nI j)), some (.inl (nI b))] [] m1 Q := by
      intro r
      induction r with
      | zero =>
        intro b P1 w ov1 m1 j hbr hs1 hf1 hj hA hB t1 t2
        have eb : b = 7 := by omega
        subst eb
        refine w_Code_readWord_22 hc ⟨fun _ => hQ (-1) P1 ov1 m1 (Or.inl rfl) hs1 hf1 t1 (fun e => ?_), fun q => absurd (by decide) q⟩
        rcases t2 e with ⟨z1, z2⟩ | ⟨z1, z2⟩
        · exact Or.inl ⟨by rw [z2, zsy], z1⟩
        · exact Or.inr ⟨z1, z2⟩
      | succ r ih =>
        intro b P1 w ov1 m1 j hbr hs1 hf1 hj hA hB t1 t2
        refine w_Code_readWord_22 hc ⟨fun q => absurd q (show ¬ nI 6 < nI b from nI_nlt (by omega) (by decide)), fun _ => ?_⟩
        refine r_take (n := 1) (by decide) hs1 (fun v P2 ov2 m2 hv hs2 hf2 htk => ⟨nI v, rfl, ?_⟩)
        have hfm : ∀ q, q ≠ 3 → m2 q = m q := fun q hq => by rw [hf2 q hq]; exact hf1 q hq
        have e4 : m2 (c + 4) = m (c + 4) := hfm _ (by omega)
        have hov : ov = true → ov2 = true := fun e => htk.1 (t1 e)
        -- what is left of the whole word
        have hst : ov = false → (ov2 = false ∧ zrdSym f (8 * sz) L wd (m (c + 4)) P = (match L.find? (fun s => decide (wd s = b ∧ m (c + 4) s = 2 * w + nI v)) with | some s => some (nI s, P2) | none => zsy f (8 * sz) L wd (m (c + 4)) r (b + 1) (2 * w + nI v) P2)) ∨ (zrdSym f (8 * sz) L wd (m (c + 4)) P = none ∧ ov2 = true) := by
          intro e
          rcases t2 e with ⟨z1, z2⟩ | ⟨z1, z2⟩
          · rcases htk.2 z1 with ⟨x1, x2⟩ | ⟨x1, x2⟩
            · left
              refine ⟨x2, ?_⟩
              rw [z2, zsy, x1]
            · right
              refine ⟨?_, x2⟩
              rw [z2, zsy, x1]
          · exact Or.inr ⟨z1, htk.1 z2⟩
        refine s_readWord_in (wd := wd) hc hS (zLst_of (hfm c (by omega)) (hfm (c + 1) (by omega)) (hfm (c + 3) (by omega)) hl') (fun s hs' => by rw [hfm (c + 3) (by omega)]; exact hb s hs') hw6 hso (by omega) (fun s hfd => ?_) (fun hno j' h1' h2' h3' => ?_) (L.length - j) j (by omega) (fun s hs' => Nat.lt_succ_of_lt (hA s hs')) hB (fun s hs' z => by have := hA s hs'; omega)
        · rw [e4] at hfd
          have hmem := List.mem_of_find?_eq_some hfd
          refine hQ (nI s) P2 ov2 m2 (Or.inr ⟨s, hmem, rfl⟩) hs2 hfm hov (fun e => ?_)
          rcases hst e with ⟨z1, z2⟩ | z
          · left
            refine ⟨?_, z1⟩
            rw [z2, hfd]
          · exact Or.inr z
        · rw [e4] at hno
          refine ih (b + 1) P2 (2 * w + nI v) ov2 m2 j' (by omega) hs2 hfm h1' h2' h3' hov (fun e => ?_)
          rcases hst e with ⟨z1, z2⟩ | z
          · left
            refine ⟨z1, ?_⟩
            rw [z2, hno]
          · exact Or.inr z
    refine key 6 1 P 0 ov m 0 (by omega) hs (fun _ _ => rfl) (Nat.zero_le _) (fun s h => by simp at h) (fun s h => hw1 h1 s (by simpa using h)) (fun e => e) (fun e => Or.inl ⟨e, ?_⟩)
    rw [zrdSym, if_neg h1]
  · have h1 : L.length = 1 := by
      rw [h6] at q
      exact (nI_eq (a := L.length) (b := 1) (by omega) (by decide)).mp q
    rw [hrow 0 hpos]
    refine hQ _ P ov m (Or.inr ⟨L.getD 0 0, zget_mem hpos, rfl⟩) hs (fun _ _ => rfl) (fun e => e) (fun e => Or.inl ⟨?_, e⟩)
    rw [zrdSym, if_pos h1]
end zWord1
