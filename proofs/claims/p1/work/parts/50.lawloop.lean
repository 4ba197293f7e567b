/-! the law's loop, over any invariant I: I t holds while t turns may come -/
section zLawLoop
def zOps (κ : zK) (J : zM → Prop) (mem : zM) : Prop :=
  (∀ x : Int32, zR κ zdd Y_Rp_put 0 [some (.inr 0), some (.inl x)] [] mem (fun r m1 => ∃ y1 : Int32, r = some (.inl y1) ∧ zR κ zdd Y_Mo_put 0 [some (.inr 68), some (.inl x)] [] m1 (fun r m2 => ∃ y2 : Int32, r = some (.inl y2) ∧ y1 = y2 ∧ J m2))) ∧
  (zR κ zdd Y_Rp_clear 0 [some (.inr 0)] [] mem (fun r m1 => r = none ∧ zR κ zdd Y_Mo_clear 0 [some (.inr 68)] [] m1 (fun r m2 => r = none ∧ J m2))) ∧
  (zR κ zdd Y_Rp_length 0 [some (.inr 0)] [] mem (fun r m1 => ∃ y1 : Int32, r = some (.inl y1) ∧ zR κ zdd Y_Mo_length 0 [some (.inr 68)] [] m1 (fun r m2 => ∃ y2 : Int32, r = some (.inl y2) ∧ y1 = y2 ∧ J m2))) ∧
  (∀ x : Int32, zR κ zdd Y_Rp_at 0 [some (.inr 0), some (.inl x)] [] mem (fun r m1 => ∃ y1 : Int32, r = some (.inl y1) ∧ zR κ zdd Y_Mo_at 0 [some (.inr 68), some (.inl x)] [] m1 (fun r m2 => ∃ y2 : Int32, r = some (.inl y2) ∧ y1 = y2 ∧ J m2))) ∧
  (zR κ zdd Y_Rp_pack 0 [some (.inr 0), none] [] mem (fun r m1 => ∃ y1 : Int32, r = some (.inl y1) ∧ zR κ zdd Y_Mo_pack 0 [some (.inr 68), none, none] [] m1 (fun r m2 => ∃ y2 : Int32, r = some (.inl y2) ∧ y1 = y2 ∧ J m2))) ∧
  (zR κ zdd Y_Rp_unpack 0 [some (.inr 0)] [] mem (fun r m1 => ∃ y1 : Int32, r = some (.inl y1) ∧ zR κ zdd Y_Mo_unpack 0 [some (.inr 68), none, none, none, none, none, none] [] m1 (fun r m2 => ∃ y2 : Int32, r = some (.inl y2) ∧ y1 = y2 ∧ J m2))) ∧
  (zR κ zdd Y_Rp_size 0 [some (.inr 0)] [] mem (fun r m1 => ∃ y1 : Int32, r = some (.inl y1) ∧ zR κ zdd Y_Mo_size 0 [some (.inr 68)] [] m1 (fun r m2 => ∃ y2 : Int32, r = some (.inl y2) ∧ y1 = y2 ∧ J m2))) ∧
  (∀ x : Int32, zR κ zdd Y_Rp_byteAt 0 [some (.inr 0), some (.inl x)] [] mem (fun r m1 => ∃ y1 : Int32, r = some (.inl y1) ∧ zR κ zdd Y_Mo_byteAt 0 [some (.inr 68), some (.inl x)] [] m1 (fun r m2 => ∃ y2 : Int32, r = some (.inl y2) ∧ y1 = y2 ∧ J m2))) ∧
  (∀ x z : Int32, zR κ zdd Y_Rp_poke 0 [some (.inr 0), some (.inl x), some (.inl z)] [] mem (fun r m1 => ∃ y1 : Int32, r = some (.inl y1) ∧ zR κ zdd Y_Mo_poke 0 [some (.inr 68), some (.inl x), some (.inl z)] [] m1 (fun r m2 => ∃ y2 : Int32, r = some (.inl y2) ∧ y1 = y2 ∧ J m2))) ∧
  (∀ x : Int32, zR κ zdd Y_Rp_append 0 [some (.inr 0), some (.inl x)] [] mem (fun r m1 => ∃ y1 : Int32, r = some (.inl y1) ∧ zR κ zdd Y_Mo_append 0 [some (.inr 68), some (.inl x)] [] m1 (fun r m2 => ∃ y2 : Int32, r = some (.inl y2) ∧ y1 = y2 ∧ J m2))) ∧
  (∀ x : Int32, zR κ zdd Y_Rp_trim 0 [some (.inr 0), some (.inl x)] [] mem (fun r m1 => ∃ y1 : Int32, r = some (.inl y1) ∧ zR κ zdd Y_Mo_trim 0 [some (.inr 68), some (.inl x)] [] m1 (fun r m2 => ∃ y2 : Int32, r = some (.inl y2) ∧ y1 = y2 ∧ J m2))) ∧
  (zR κ zdd Y_Rp_coded 0 [some (.inr 0)] [] mem (fun r m1 => ∃ y1 : Int32, r = some (.inl y1) ∧ zR κ zdd Y_Mo_coded 0 [some (.inr 68)] [] m1 (fun r m2 => ∃ y2 : Int32, r = some (.inl y2) ∧ y1 = y2 ∧ J m2))) ∧
  (zR κ zdd Y_Rp_copies 0 [some (.inr 0)] [] mem (fun r m1 => ∃ y1 : Int32, r = some (.inl y1) ∧ zR κ zdd Y_Mo_copies 0 [some (.inr 68)] [] m1 (fun r m2 => ∃ y2 : Int32, r = some (.inl y2) ∧ y1 = y2 ∧ J m2))) ∧
  (zR κ zdd Y_Rp_words 0 [some (.inr 0)] [] mem (fun r m1 => ∃ y1 : Int32, r = some (.inl y1) ∧ zR κ zdd Y_Mo_words 0 [some (.inr 68)] [] m1 (fun r m2 => ∃ y2 : Int32, r = some (.inl y2) ∧ y1 = y2 ∧ J m2))) ∧
  (zR κ zdd Y_Rp_symbols 0 [some (.inr 0)] [] mem (fun r m1 => ∃ y1 : Int32, r = some (.inl y1) ∧ zR κ zdd Y_Mo_symbols 0 [some (.inr 68)] [] m1 (fun r m2 => ∃ y2 : Int32, r = some (.inl y2) ∧ y1 = y2 ∧ J m2)))
theorem law_gt {n i : Nat} (hn : n ≤ 2000) (hi : i ≤ 2010) (h : n < i + 3) : nI n - 3 < nI i := by
  refine Int32.lt_iff_toInt_lt.mpr ?_
  rw [show (3 : Int32) = nI 3 from rfl, pk_sub_toInt (by omega) (by omega), nI_toInt (by omega)]
  omega
set_option maxRecDepth 100000 in
set_option maxHeartbeats 4000000 in
theorem law_loop {κ : zK} {b n : Nat} {xs : Nat → Int32} (hn : n ≤ 1536) {I : Nat → zM → Prop} (hI : ∀ t mem, I (t + 1) mem → zOps κ (I t) mem) (hskip : ∀ t mem, I (t + 1) mem → I t mem) : ∀ (t i : Nat) (mem : zM), n < i + 3 * t + 3 → i ≤ n + 3 → I t mem → zL κ b n xs 18 [some (.inr 3000), some (.inr 0), some (.inr 68), some (.inl (nI i))] [] mem := by
  intro t
  induction t with
  | zero =>
    intro i mem h1 h2 hm
    exact w_Law_law_18 ⟨fun _ => trivial, fun q => absurd (law_gt (by omega) (by omega) (by omega)) q⟩
  | succ t ih =>
    intro i mem h1 h2 hm
    refine w_Law_law_18 ⟨fun _ => trivial, fun q => ?_⟩
    have h3 : i + 3 ≤ n := by
      rcases Nat.lt_or_ge n (i + 3) with z | z
      · exact absurd (law_gt (by omega) (by omega) z) q
      · exact z
    refine ⟨vp_in_nI (by omega) (by omega), ?_⟩
    rw [nI_clamp (by omega)]
    have i1 : vp_in (nI i + 1) n := by rw [nI_1]; exact vp_in_nI (by omega) (by omega)
    have i2 : vp_in (nI i + 2) n := by rw [show nI i + 2 = nI (i + 2) from nI_add i 2]; exact vp_in_nI (by omega) (by omega)
    have next : ∀ m, I t m → zL κ b n xs 371 [some (.inr 3000), some (.inr 0), some (.inr 68), some (.inl (nI i))] [] m := by
      intro m hm'
      refine w_Law_law_371 ?_
      have h4 := ih (i + 3) m (by omega) (by omega) hm'
      rw [show nI i + 3 = nI (i + 3) from nI_add i 3]
      exact h4
    obtain ⟨j, hj, ej⟩ := pk_andE (xs i) (m := 15) 4 (by decide)
    rw [ej]
    obtain ⟨o0, o1, o2, o3, o4, o5, o6, o7, o8, o9, o10, o11, o12, o13, o14⟩ := hI t mem hm
    rcases (show j = 0 ∨ j = 1 ∨ j = 2 ∨ j = 3 ∨ j = 4 ∨ j = 5 ∨ j = 6 ∨ j = 7 ∨ j = 8 ∨ j = 9 ∨ j = 10 ∨ j = 11 ∨ j = 12 ∨ j = 13 ∨ j = 14 ∨ j = 15 by omega) with rfl | rfl | rfl | rfl | rfl | rfl | rfl | rfl | rfl | rfl | rfl | rfl | rfl | rfl | rfl | rfl
    · refine zL_swIn (tgt := 108) d_Law_law_32 (by decide +kernel) (by decide +kernel) (off := 76) (by decide +kernel) (by decide) ?_
      exact w_Law_law_108 ⟨i1, (zR_cons (fun r m1 ⟨y1, e, h⟩ => ⟨y1, e, i1, zR_cons (fun r m2 ⟨y2, e, e2, h⟩ => ⟨y2, e, fun _ => next m2 h, fun q => absurd e2 q⟩) h⟩) (o0 (xs (nI i + 1).toNatClampNeg)))⟩
    · refine zL_swIn (tgt := 131) d_Law_law_32 (by decide +kernel) (by decide +kernel) (off := 99) (by decide +kernel) (by decide) ?_
      exact w_Law_law_131 (zR_cons (fun r m1 ⟨e, h⟩ => ⟨e, zR_cons (fun r m2 ⟨e, h⟩ => ⟨e, next m2 h⟩) h⟩) (o1))
    · refine zL_swIn (tgt := 142) d_Law_law_32 (by decide +kernel) (by decide +kernel) (off := 110) (by decide +kernel) (by decide) ?_
      exact w_Law_law_142 (zR_cons (fun r m1 ⟨y1, e, h⟩ => ⟨y1, e, zR_cons (fun r m2 ⟨y2, e, e2, h⟩ => ⟨y2, e, fun _ => next m2 h, fun q => absurd e2 q⟩) h⟩) (o2))
    · refine zL_swIn (tgt := 155) d_Law_law_32 (by decide +kernel) (by decide +kernel) (off := 123) (by decide +kernel) (by decide) ?_
      exact w_Law_law_155 ⟨i1, (zR_cons (fun r m1 ⟨y1, e, h⟩ => ⟨y1, e, i1, zR_cons (fun r m2 ⟨y2, e, e2, h⟩ => ⟨y2, e, fun _ => next m2 h, fun q => absurd e2 q⟩) h⟩) (o3 (xs (nI i + 1).toNatClampNeg)))⟩
    · refine zL_swIn (tgt := 178) d_Law_law_32 (by decide +kernel) (by decide +kernel) (off := 146) (by decide +kernel) (by decide) ?_
      exact w_Law_law_178 (zR_cons (fun r m1 ⟨y1, e, h⟩ => ⟨y1, e, zR_cons (fun r m2 ⟨y2, e, e2, h⟩ => ⟨y2, e, fun _ => next m2 h, fun q => absurd e2 q⟩) h⟩) (o4))
    · refine zL_swIn (tgt := 191) d_Law_law_32 (by decide +kernel) (by decide +kernel) (off := 159) (by decide +kernel) (by decide) ?_
      exact w_Law_law_191 (zR_cons (fun r m1 ⟨y1, e, h⟩ => ⟨y1, e, zR_cons (fun r m2 ⟨y2, e, e2, h⟩ => ⟨y2, e, fun _ => next m2 h, fun q => absurd e2 q⟩) h⟩) (o5))
    · refine zL_swIn (tgt := 204) d_Law_law_32 (by decide +kernel) (by decide +kernel) (off := 172) (by decide +kernel) (by decide) ?_
      exact w_Law_law_204 (zR_cons (fun r m1 ⟨y1, e, h⟩ => ⟨y1, e, zR_cons (fun r m2 ⟨y2, e, e2, h⟩ => ⟨y2, e, fun _ => next m2 h, fun q => absurd e2 q⟩) h⟩) (o6))
    · refine zL_swIn (tgt := 217) d_Law_law_32 (by decide +kernel) (by decide +kernel) (off := 185) (by decide +kernel) (by decide) ?_
      exact w_Law_law_217 ⟨i1, (zR_cons (fun r m1 ⟨y1, e, h⟩ => ⟨y1, e, i1, zR_cons (fun r m2 ⟨y2, e, e2, h⟩ => ⟨y2, e, fun _ => next m2 h, fun q => absurd e2 q⟩) h⟩) (o7 (xs (nI i + 1).toNatClampNeg)))⟩
    · refine zL_swIn (tgt := 240) d_Law_law_32 (by decide +kernel) (by decide +kernel) (off := 208) (by decide +kernel) (by decide) ?_
      exact w_Law_law_240 ⟨i1, i2, (zR_cons (fun r m1 ⟨y1, e, h⟩ => ⟨y1, e, i1, i2, zR_cons (fun r m2 ⟨y2, e, e2, h⟩ => ⟨y2, e, fun _ => next m2 h, fun q => absurd e2 q⟩) h⟩) (o8 (xs (nI i + 1).toNatClampNeg) (xs (nI i + 2).toNatClampNeg)))⟩
    · refine zL_swIn (tgt := 273) d_Law_law_32 (by decide +kernel) (by decide +kernel) (off := 241) (by decide +kernel) (by decide) ?_
      exact w_Law_law_273 ⟨i1, (zR_cons (fun r m1 ⟨y1, e, h⟩ => ⟨y1, e, i1, zR_cons (fun r m2 ⟨y2, e, e2, h⟩ => ⟨y2, e, fun _ => next m2 h, fun q => absurd e2 q⟩) h⟩) (o9 (xs (nI i + 1).toNatClampNeg)))⟩
    · refine zL_swIn (tgt := 296) d_Law_law_32 (by decide +kernel) (by decide +kernel) (off := 264) (by decide +kernel) (by decide) ?_
      exact w_Law_law_296 ⟨i1, (zR_cons (fun r m1 ⟨y1, e, h⟩ => ⟨y1, e, i1, zR_cons (fun r m2 ⟨y2, e, e2, h⟩ => ⟨y2, e, fun _ => next m2 h, fun q => absurd e2 q⟩) h⟩) (o10 (xs (nI i + 1).toNatClampNeg)))⟩
    · refine zL_swIn (tgt := 319) d_Law_law_32 (by decide +kernel) (by decide +kernel) (off := 287) (by decide +kernel) (by decide) ?_
      exact w_Law_law_319 (zR_cons (fun r m1 ⟨y1, e, h⟩ => ⟨y1, e, zR_cons (fun r m2 ⟨y2, e, e2, h⟩ => ⟨y2, e, fun _ => next m2 h, fun q => absurd e2 q⟩) h⟩) (o11))
    · refine zL_swIn (tgt := 332) d_Law_law_32 (by decide +kernel) (by decide +kernel) (off := 300) (by decide +kernel) (by decide) ?_
      exact w_Law_law_332 (zR_cons (fun r m1 ⟨y1, e, h⟩ => ⟨y1, e, zR_cons (fun r m2 ⟨y2, e, e2, h⟩ => ⟨y2, e, fun _ => next m2 h, fun q => absurd e2 q⟩) h⟩) (o12))
    · refine zL_swIn (tgt := 345) d_Law_law_32 (by decide +kernel) (by decide +kernel) (off := 313) (by decide +kernel) (by decide) ?_
      exact w_Law_law_345 (zR_cons (fun r m1 ⟨y1, e, h⟩ => ⟨y1, e, zR_cons (fun r m2 ⟨y2, e, e2, h⟩ => ⟨y2, e, fun _ => next m2 h, fun q => absurd e2 q⟩) h⟩) (o13))
    · refine zL_swIn (tgt := 358) d_Law_law_32 (by decide +kernel) (by decide +kernel) (off := 326) (by decide +kernel) (by decide) ?_
      exact w_Law_law_358 (zR_cons (fun r m1 ⟨y1, e, h⟩ => ⟨y1, e, zR_cons (fun r m2 ⟨y2, e, e2, h⟩ => ⟨y2, e, fun _ => next m2 h, fun q => absurd e2 q⟩) h⟩) (o14))
    · refine zL_swOut (tgt := 371) d_Law_law_32 (by decide +kernel) (by decide) ?_
      exact next mem (hskip t mem hm)
end zLawLoop
