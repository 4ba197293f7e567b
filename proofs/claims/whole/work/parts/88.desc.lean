/-! a code's description in bits; the class writes it -/
section zDesc
variable {κ : zK} {d : Nat} {Q : Option zV → zM → Prop} {c S nb : Nat} {tm : Nat → Nat}
def zgp : Nat → Nat → List Bool
  | 0, z => List.replicate (3 * z) false
  | t + 1, z => if z < 3 then List.replicate (3 * z) false else zbits 7 0 3 ++ zbits (nI (min z 18 - 3)) 0 4 ++ zgp t (z - min z 18)
def zfd (tm w : Nat → Nat) : Nat → Nat → Nat → List Bool
  | 0, _, _ => []
  | r + 1, s, z => if 0 < tm s then zgp z z ++ zbits (nI (w s)) 0 3 ++ zfd tm w r (s + 1) 0 else zfd tm w r (s + 1) (z + 1)
def zdsc (tm : Nat → Nat) (S nb : Nat) : List Bool := if (zlst tm S).length ≤ 4 then zbits 1 0 1 ++ zbits (nI ((zL0 tm S).length - 1)) 0 2 ++ (zSo tm S).flatMap (fun s => zbits (nI s) 0 nb) else zbits 0 0 1 ++ zfd tm (zcw tm S) S 0 0
theorem zgp_len : ∀ (t z : Nat), (zgp t z).length ≤ 3 * z := by
  intro t
  induction t with
  | zero => intro z; rw [zgp, List.length_replicate]; exact Nat.le_refl _
  | succ t ih =>
    intro z
    rw [zgp]
    split
    · rw [List.length_replicate]
      exact Nat.le_refl _
    · rw [List.length_append, List.length_append, zbits_length, zbits_length]
      have := ih (z - min z 18)
      omega
theorem zfd_len {w : Nat → Nat} : ∀ (r s z : Nat), (zfd tm w r s z).length ≤ 3 * (r + z) := by
  intro r
  induction r with
  | zero => intro s z; exact Nat.zero_le _
  | succ r ih =>
    intro s z
    rw [zfd]
    split
    · rw [List.length_append, List.length_append, zbits_length]
      have := ih (s + 1) 0
      have := zgp_len z z
      omega
    · have := ih (s + 1) (z + 1)
      omega
theorem zfd_nil {w : Nat → Nat} : ∀ (r s z : Nat), zlr tm r s = [] → zfd tm w r s z = [] := by
  intro r
  induction r with
  | zero => intro s z _; rfl
  | succ r ih =>
    intro s z h
    rw [zlr] at h
    rw [zfd]
    split
    · rename_i hp
      rw [if_pos hp] at h
      cases h
    · rename_i hp
      rw [if_neg hp] at h
      exact ih (s + 1) (z + 1) h
theorem zflat_len {n : Nat} : ∀ l : List Nat, (l.flatMap (fun s => zbits (nI s) 0 n)).length = n * l.length := by
  intro l
  induction l with
  | nil => rfl
  | cons a l ih =>
    rw [List.flatMap_cons, List.length_append, zbits_length, ih, List.length_cons, Nat.mul_add, Nat.mul_one]
    omega
theorem zSo_len : (zSo tm S).length = (zL0 tm S).length := zSo_perm.length_eq
theorem zL0_len (h : (zlst tm S).length ≤ 4) : (zL0 tm S).length ≤ 4 := by
  unfold zL0
  split
  · decide
  · exact h
theorem zdsc_len (hnb : nb ≤ 8) : (zdsc tm S nb).length ≤ 3 * S + 35 := by
  unfold zdsc
  split
  · rename_i h
    rw [List.length_append, List.length_append, zbits_length, zbits_length, zflat_len, zSo_len]
    have h4 := zL0_len h
    have : nb * (zL0 tm S).length ≤ 8 * 4 := Nat.mul_le_mul hnb h4
    omega
  · rw [List.length_append, zbits_length]
    have := zfd_len (tm := tm) (w := zcw tm S) S 0 0
    omega
theorem zrep_app (a b : Nat) : List.replicate a false ++ List.replicate b false = List.replicate (a + b) false := by
  rw [← List.replicate_append_replicate]
theorem s_missing {m : zM} {bs : List Bool} {x1 : Int32} : ∀ (t z : Nat) (m : zM) (bs : List Bool), z ≤ t → z ≤ 256 → bs.length + 3 * z ≤ 8000 → zWB m bs → (∀ m', zWB m' (bs ++ zgp t z) → zF34 m m' → Q none m') → zR κ (d + 1) Y_Code_writeMissing 2 [some (.inr 3), some (.inl x1), some (.inl (nI z)), none] [] m Q := by
  intro t
  induction t with
  | zero =>
    intro z m bs hz h256 hl hw hQ
    have e : z = 0 := by omega
    subst e
    refine w_Code_writeMissing_2 ⟨fun _ => s_give (x := 0) (n := 0) (by decide) (by omega) hw (fun m' g1 g2 => ⟨rfl, hQ m' g1 g2⟩), fun q => absurd (by decide) q⟩
  | succ t ih =>
    intro z m bs hz h256 hl hw hQ
    rw [zgp] at hQ
    refine w_Code_writeMissing_2 ⟨fun q => ?_, fun q => ?_⟩
    · have q := (nI_ltI (by omega) (by decide)).mp (show nI z < nI 3 from q)
      rw [if_pos q] at hQ
      have e3 : (3 : Int32) * nI z = nI (3 * z) := (Int32.ofNat_mul 3 z).symm
      rw [e3]
      refine s_give (x := 0) (by omega) (by omega) hw (fun m' g1 g2 => ⟨rfl, hQ m' ?_ g2⟩)
      rw [zbits_0] at g1
      exact g1
    · have q : 3 ≤ z := by
        rcases Nat.lt_or_ge z 3 with g | g
        · exact absurd (show nI z < nI 3 from nI_lt g (by decide)) q
        · exact g
      rw [if_neg (by omega)] at hQ
      have emin : (if (18 : Int32) < nI z then 18 else nI z) = nI (min z 18) := by
        by_cases h : 18 < z
        · rw [if_pos (show (18 : Int32) < nI z from nI_lt (a := 18) h (by omega)), show min z 18 = 18 by omega] <;> rfl
        · rw [if_neg (show ¬ (18 : Int32) < nI z from nI_nlt (a := 18) (by omega) (by decide)), show min z 18 = z by omega]
      rw [emin]
      have e3 : nI (min z 18) - 3 = nI (min z 18 - 3) := nI_sub (b := 3) (by omega)
      rw [e3, nI_sub (by omega)]
      refine s_give (x := 7) (n := 3) (by decide) (by omega) hw (fun m1 g1 g2 => ⟨rfl, s_give (n := 4) (by decide) (by rw [List.length_append, zbits_length]; omega) g1 (fun m2 g3 g4 => ⟨rfl, ih (z - min z 18) m2 _ (by omega) (by omega) (by rw [List.length_append, List.length_append, zbits_length, zbits_length]; omega) g3 (fun m' g5 g6 => hQ m' ?_ ((g2.tr g4).tr g6))⟩)⟩)
      rw [List.append_assoc, List.append_assoc] at g5
      rw [List.append_assoc (zbits 7 0 3)]
      exact g5
theorem s_bitNumbers {m : zM} {bs : List Bool} (hc : is_Code c S) (hc11 : 11 ≤ c) (hS : S ≤ 256) (hm : zMade c S nb tm m) (h5 : 4 < (zlst tm S).length) (hl : bs.length + 3 * S ≤ 8000) (hw : zWB m bs)
    (hQ : ∀ m', zWB m' (bs ++ zfd tm (zcw tm S) S 0 0) → zF34 m m' → Q none m') : zR κ (d + 2) Y_Code_writeBitNumbers 0 [some (.inr c), some (.inr 3), none, none, none] [] m Q := by
  obtain ⟨c0, c1, hlst, hb, hv⟩ := hm
  have eA : zL0 tm S = zlst tm S := if_neg (by omega)
  have e6 : m c 6 = nI (zlst tm S).length := by rw [hlst.2.2.1, zSo_len, eA]
  have h64 : (zlst tm S).length ≤ 64 := by
    have := hlst.1
    rw [zSo_len, eA] at this
    exact this
  have hwd : ∀ s, s < S → (0 < tm s → 1 ≤ zcw tm S s) ∧ (¬ 0 < tm s → zcw tm S s = 0) := by
    intro s hs
    refine ⟨fun h => zcw_in.2.2 h5 (by rw [eA]; exact zlst_mem.mpr ⟨hs, h⟩), fun h => zcw_in.2.1 (by rw [eA]; exact fun g => h (zlst_mem.mp g).2)⟩
  refine w_Code_writeBitNumbers_0 hc ?_
  have key : ∀ (r s z wr : Nat) (m1 : zM) (bs1 : List Bool), s + r = S → z ≤ s → wr + (zlr tm r s).length = (zlst tm S).length → bs1.length + 3 * (r + z) ≤ 8000 → zF34 m m1 → zWB m1 bs1 → bs1 ++ zfd tm (zcw tm S) r s z = bs ++ zfd tm (zcw tm S) S 0 0 → zR κ (d + 2) Y_Code_writeBitNumbers 7 [some (.inr c), some (.inr 3), some (.inl (nI wr)), some (.inl (nI z)), some (.inl (nI s))] [] m1 Q := by
    intro r
    induction r with
    | zero =>
      intro s z wr m1 bs1 hs hz hwr hl1 hF hw1 he
      have e0 : m1 c 0 = nI S := by rw [hF.1 c (by omega) (by omega)]; exact c0
      rw [zfd, List.append_nil] at he
      rw [he] at hw1
      refine w_Code_writeBitNumbers_7 hc ⟨fun _ => hQ m1 hw1 hF, fun g => ?_⟩
      rw [e0] at g
      exact absurd (nI_le (by omega) (by omega)) g
    | succ r ih =>
      intro s z wr m1 bs1 hs hz hwr hl1 hF hw1 he
      have hsS : s < S := by omega
      have e0 : m1 c 0 = nI S := by rw [hF.1 c (by omega) (by omega)]; exact c0
      have e6' : m1 c 6 = nI (zlst tm S).length := by rw [hF.1 c (by omega) (by omega)]; exact e6
      have eb : m1 (c + 3) s = nI (zcw tm S s) := by rw [hF.1 (c + 3) (by omega) (by omega)]; exact hb s hsS
      have hw6 := (zcw_in (tm := tm) (S := S) (s := s)).1
      refine w_Code_writeBitNumbers_7 hc ⟨fun g => ?_, fun _ => ⟨fun g => ?_, fun _ => ?_⟩⟩
      · rw [e0] at g
        exact absurd g (nI_ge hsS (by omega))
      · rw [e6'] at g
        have g := (nI_leI (by omega) (by omega)).mp g
        rw [zfd_nil (r + 1) s z (List.length_eq_zero_iff.mp (by omega)), List.append_nil] at he
        rw [he] at hw1
        exact hQ m1 hw1 hF
      rw [nI_clamp (by omega), eb]
      rw [zlr] at hwr
      rw [zfd] at he
      refine ⟨vp_in_nI hsS (by omega), fun g => ?_, fun g => ?_⟩
      · have hp : 0 < tm s := by
          rcases Nat.eq_zero_or_pos (tm s) with q | q
          · exact absurd (by rw [(hwd s hsS).2 (by omega)]; rfl) g
          · exact q
        rw [if_pos hp] at hwr he
        rw [List.length_cons] at hwr
        have hgl := zgp_len z z
        refine w_Code_writeMissing_0 (s_missing (m := m1) (bs := bs1) z z m1 bs1 (Nat.le_refl _) (by omega) (by omega) hw1 (fun m2 g1 g2 => ⟨rfl, vp_in_nI hsS (by omega), ?_⟩))
        have eb2 : m2 (c + 3) s = nI (zcw tm S s) := by rw [g2.1 (c + 3) (by omega) (by omega)]; exact eb
        rw [eb2, nI_1, nI_1]
        refine s_give (n := 3) (by decide) (by rw [List.length_append]; omega) g1 (fun m3 g3 g4 => ⟨rfl, ih (s + 1) 0 (wr + 1) m3 _ (by omega) (by omega) (by omega) (by rw [List.length_append, List.length_append, zbits_length]; omega) ((hF.tr g2).tr g4) g3 ?_⟩)
        rw [List.append_assoc, List.append_assoc, ← List.append_assoc (zgp z z)]
        exact he
      · have hp : ¬ 0 < tm s := by
          intro q
          have h1 := (hwd s hsS).1 q
          have h2 := (nI_eq (by omega) (by decide)).mp (show nI (zcw tm S s) = nI 0 from g)
          omega
        rw [if_neg hp] at hwr he
        rw [nI_1, nI_1]
        exact ih (s + 1) (z + 1) wr m1 bs1 (by omega) (by omega) hwr (by omega) hF hw1 he
  exact key S 0 0 0 m bs (by omega) (by omega) (by rw [← zlst_r]; omega) (by omega) zF34.rf hw rfl
theorem s_writeDesc {m : zM} {bs : List Bool} (hc : is_Code c S) (hc11 : 11 ≤ c) (hS : S ≤ 256) (hS0 : 0 < S) (hnb : nb ≤ 8) (hm : zMade c S nb tm m) (hl : bs.length + 3 * S + 35 ≤ 8000) (hw : zWB m bs)
    (hQ : ∀ m', zWB m' (bs ++ zdsc tm S nb) → zF34 m m' → Q none m') : zR κ (d + 3) Y_Code_writeDescription 0 [some (.inr c), some (.inr 3), none] [] m Q := by
  have hm' := hm
  obtain ⟨c0, c1, hlst, hb, hv⟩ := hm'
  have e6 : m c 6 = nI (zL0 tm S).length := by rw [hlst.2.2.1, zSo_len]
  have h64 : (zL0 tm S).length ≤ 64 := by rw [← zSo_len]; exact hlst.1
  have hpos : 0 < (zL0 tm S).length := List.length_pos_iff.mpr zL0_ne
  have hi : (zL0 tm S).length ≤ 4 ↔ (zlst tm S).length ≤ 4 := by
    unfold zL0
    split
    · constructor
      · intro _; omega
      · intro _; decide
    · exact Iff.rfl
  unfold zdsc at hQ
  refine w_Code_writeDescription_0 hc ⟨fun z => ?_, fun z => ?_⟩
  · rw [e6] at z
    have z := (nI_leI (by omega) (by decide)).mp (show nI (zL0 tm S).length ≤ nI 4 from z)
    rw [if_pos (hi.mp z)] at hQ
    refine s_give (x := 1) (n := 1) (by decide) (by omega) hw (fun m1 g1 g2 => ⟨rfl, ?_⟩)
    have e6' : m1 c 6 = nI (zL0 tm S).length := by rw [g2.1 c (by omega) (by omega)]; exact e6
    have e7 : m1 c 6 - 1 = nI ((zL0 tm S).length - 1) := by rw [e6']; exact nI_sub (b := 1) hpos
    rw [e7]
    refine s_give (n := 2) (by decide) (by rw [List.length_append, zbits_length]; omega) g1 (fun m2 g3 g4 => ⟨rfl, ?_⟩)
    have hF2 := g2.tr g4
    have key : ∀ (r k : Nat) (m3 : zM) (bs3 : List Bool), k + r = (zL0 tm S).length → bs3.length + 8 * r ≤ 8000 → zF34 m m3 → zWB m3 bs3 → bs3 ++ ((zSo tm S).drop k).flatMap (fun s => zbits (nI s) 0 nb) = bs ++ (zbits 1 0 1 ++ zbits (nI ((zL0 tm S).length - 1)) 0 2 ++ (zSo tm S).flatMap (fun s => zbits (nI s) 0 nb)) → zR κ (d + 2 + 1) Y_Code_writeDescription 39 [some (.inr c), some (.inr 3), some (.inl (nI k))] [] m3 Q := by
      intro r
      induction r with
      | zero =>
        intro k m3 bs3 hk hl3 hF hw3 he
        have e6'' : m3 c 6 = nI (zL0 tm S).length := by rw [hF.1 c (by omega) (by omega)]; exact e6
        rw [List.drop_eq_nil_of_le (by rw [zSo_len]; omega), List.flatMap_nil, List.append_nil] at he
        rw [he] at hw3
        refine w_Code_writeDescription_39 hc ⟨fun _ => hQ m3 hw3 hF, fun g => ?_⟩
        rw [e6''] at g
        exact absurd (nI_le (by omega) (by omega)) g
      | succ r ih =>
        intro k m3 bs3 hk hl3 hF hw3 he
        have hkl : k < (zSo tm S).length := by rw [zSo_len]; omega
        have e6'' : m3 c 6 = nI (zL0 tm S).length := by rw [hF.1 c (by omega) (by omega)]; exact e6
        have e1 : m3 (c + 1) k = nI ((zSo tm S).getD k 0) := by rw [hF.1 (c + 1) (by omega) (by omega)]; exact hlst.2.2.2.1 k hkl
        have enb : m3 c 1 = nI nb := by rw [hF.1 c (by omega) (by omega)]; exact c1
        rw [zdrop_cons hkl, List.flatMap_cons] at he
        refine w_Code_writeDescription_39 hc ⟨fun g => ?_, fun _ => ⟨vp_in_nI (by omega) (by decide), ?_⟩⟩
        · rw [e6''] at g
          exact absurd g (nI_ge (by omega) (by omega))
        rw [nI_clamp (by omega), e1, enb]
        refine s_give (by omega) (by omega) hw3 (fun m4 g5 g6 => ⟨rfl, ?_⟩)
        rw [nI_1]
        refine ih (k + 1) m4 _ (by omega) (by rw [List.length_append, zbits_length]; omega) (hF.tr g6) g5 ?_
        rw [List.append_assoc]
        exact he
    refine key (zL0 tm S).length 0 m2 _ (by omega) (by rw [List.length_append, List.length_append, zbits_length, zbits_length]; omega) hF2 g3 ?_
    rw [List.drop_zero, List.append_assoc, List.append_assoc, List.append_assoc]
  · rw [e6] at z
    have z : 4 < (zlst tm S).length := by
      rcases Nat.lt_or_ge 4 (zlst tm S).length with g | g
      · exact g
      · exact absurd (show nI (zL0 tm S).length ≤ nI 4 from nI_le (hi.mpr g) (by decide)) z
    rw [if_neg (by omega)] at hQ
    refine s_give (x := 0) (n := 1) (by decide) (by omega) hw (fun m1 g1 g2 => ⟨rfl, ?_⟩)
    have hm1 : zMade c S nb tm m1 := by
      unfold zMade zLst
      rw [g2.1 c (by omega) (by omega), g2.1 (c + 1) (by omega) (by omega), g2.1 (c + 3) (by omega) (by omega), g2.1 (c + 4) (by omega) (by omega)]
      exact hm
    refine s_bitNumbers hc hc11 hS hm1 z (by rw [List.length_append, zbits_length]; omega) g1 (fun m' g3 g4 => ⟨rfl, hQ m' ?_ (g2.tr g4)⟩)
    rw [List.append_assoc] at g3
    exact g3
end zDesc
