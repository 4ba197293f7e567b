/-! longs: the reference's letters -/
section zLong
variable {κ : zK} {d : Nat} {Y Y' : zY} {pc : Nat} {mem : zM}
theorem gs_spell : Cond.methodLink "RingPackerModel" 86 Y_Mo_spell.1 ∈ zGW := zin 1037 (by decide +kernel) (by decide +kernel)
theorem gs_letters : Cond.methodLink "RingPackerModel" 90 Y_Mo_letters.1 ∈ zGW := zin 1034 (by decide +kernel) (by decide +kernel)
theorem gs_c81 : Cond.constant "RingPackerModel" 81 65536 ∈ zGW := zin 1040 (by decide +kernel) (by decide +kernel)
theorem gs_c82 : Cond.constantLong "RingPackerModel" 82 16777216 ∈ zGW := zin 1041 (by decide +kernel) (by decide +kernel)
theorem gs_c84 : Cond.constantLong "RingPackerModel" 84 4294967296 ∈ zGW := zin 1042 (by decide +kernel) (by decide +kernel)
def zsp (a b c d e : Int32) : Int64 := (a + 256 * b + 65536 * c).toInt64 + 16777216 * d.toInt64 + 4294967296 * e.toInt64
theorem s_Mo_spell {x0 x1 x2 x3 x4 : Int32} {J : Option Value → zM → Prop} (hQ : J (some (.long (zsp x0 x1 x2 x3 x4))) mem) : zT κ d Y_Mo_spell 0 (lv_args 0 [.int x0, .int x1, .int x2, .int x3, .int x4]) [] mem J := by
  intro p e s m args below meth c C H locs ls hP hS hl
  have hl : lv_has ls 7 [(0, .int x0), (1, .int x1), (2, .int x2), (3, .int x3), (4, .int x4)] := hl
  refine lv_iload_n C.1 C.2.1 d_Mo_spell_0 rfl (hl.2.2 (0, .int x0) (by simp)) ?_
  refine lv_sipush C.1 C.2.1 d_Mo_spell_1 (v := 256) (by decide) ?_
  refine lv_iload_n C.1 C.2.1 d_Mo_spell_4 rfl (hl.2.2 (1, .int x1) (by simp)) ?_
  refine lv_imul C.1 C.2.1 d_Mo_spell_5 ?_
  refine lv_iadd C.1 C.2.1 d_Mo_spell_6 ?_
  refine lv_ldc C.1 C.2.1 (own := "RingPackerModel") C.2.2.2.2.2.1 (C.2.2.2.2.2.2.1 _ gs_c81) d_Mo_spell_7 ?_
  refine lv_iload_n C.1 C.2.1 d_Mo_spell_9 rfl (hl.2.2 (2, .int x2) (by simp)) ?_
  refine lv_imul C.1 C.2.1 d_Mo_spell_10 ?_
  refine lv_iadd C.1 C.2.1 d_Mo_spell_11 ?_
  refine lv_i2l C.1 C.2.1 d_Mo_spell_12 rfl ?_
  refine lv_lstore C.1 C.2.1 d_Mo_spell_13 hl (by decide) rfl (fun ls1 hl1 => ?_)
  have hl1 : lv_has ls1 7 [(5, .long (x0 + 256 * x1 + 65536 * x2).toInt64), (0, .int x0), (1, .int x1), (2, .int x2), (3, .int x3), (4, .int x4)] := hl1
  refine lv_lload C.1 C.2.1 d_Mo_spell_15 (hl1.2.2 (5, .long (x0 + 256 * x1 + 65536 * x2).toInt64) (by simp)) ?_
  refine lv_ldc2 C.1 C.2.1 (own := "RingPackerModel") C.2.2.2.2.2.1 (C.2.2.2.2.2.2.1 _ gs_c82) d_Mo_spell_17 ?_
  refine lv_iload_n C.1 C.2.1 d_Mo_spell_20 rfl (hl1.2.2 (3, .int x3) (by simp)) ?_
  refine lv_i2l C.1 C.2.1 d_Mo_spell_21 rfl ?_
  refine lv_lmul C.1 C.2.1 d_Mo_spell_22 ?_
  refine lv_ladd C.1 C.2.1 d_Mo_spell_23 ?_
  refine lv_ldc2 C.1 C.2.1 (own := "RingPackerModel") C.2.2.2.2.2.1 (C.2.2.2.2.2.2.1 _ gs_c84) d_Mo_spell_24 ?_
  refine lv_iload C.1 C.2.1 d_Mo_spell_27 (hl1.2.2 (4, .int x4) (by simp)) ?_
  refine lv_i2l C.1 C.2.1 d_Mo_spell_29 rfl ?_
  refine lv_lmul C.1 C.2.1 d_Mo_spell_30 ?_
  refine lv_ladd C.1 C.2.1 d_Mo_spell_31 ?_
  exact W.lret C.1 C.2.1 (C.2.2.2.1.trans rfl) (fun t ht hW => ⟨⟨some (.long (zsp x0 x1 x2 x3 x4)), mem, rfl, hQ, by rw [ht]; exact hP⟩, hS.F ht⟩) hS.2.2 d_Mo_spell_32 C.2.2.2.2.1
def zlt (m j : Nat) : Int64 := zsp ((zSB.getD (m - 4) []).getD (j * m) 0) ((zSB.getD (m - 4) []).getD (j * m + 1) 0) ((zSB.getD (m - 4) []).getD (j * m + 2) 0) ((zSB.getD (m - 4) []).getD (j * m + 3) 0) (if m = 4 then 0 else (zSB.getD (m - 4) []).getD (j * m + 4) 0)
theorem s_Mo_letters_4_0 {J : Option Value → zM → Prop} (hQ : J (some (.long (zlt 4 0))) mem) : zT κ (d + 1) Y_Mo_letters 0 (lv_args 0 [.int 4, .int 0]) [] mem J := by
  intro p e s m args below meth c C H locs ls hP hS hl
  have hl : lv_has ls 2 [(0, .int 4), (1, .int 0)] := hl
  refine lv_iload_n C.1 C.2.1 d_Mo_letters_0 rfl (hl.2.2 (0, .int 4) (by simp)) ?_
  refine lv_iconst C.1 C.2.1 d_Mo_letters_1 (v := 4) (by decide) ?_
  refine lv_icmp_ne C.1 C.2.1 d_Mo_letters_2 (tgt := 77) (by decide) (fun z => absurd rfl z) (fun _ => ?_)
  refine lv_iload_n C.1 C.2.1 d_Mo_letters_5 rfl (hl.2.2 (1, .int 0) (by simp)) ?_
  refine lv_if_ne C.1 C.2.1 d_Mo_letters_6 (tgt := 24) (by decide) (fun z => absurd rfl z) (fun _ => ?_)
  refine lv_bipush C.1 C.2.1 d_Mo_letters_9 (v := 116) (by decide) ?_
  refine lv_bipush C.1 C.2.1 d_Mo_letters_11 (v := 104) (by decide) ?_
  refine lv_bipush C.1 C.2.1 d_Mo_letters_13 (v := 97) (by decide) ?_
  refine lv_bipush C.1 C.2.1 d_Mo_letters_15 (v := 116) (by decide) ?_
  refine lv_iconst C.1 C.2.1 d_Mo_letters_17 (v := 0) (by decide) ?_
  refine zT_callS (κ := κ) (d := d) (Y := Y_Mo_letters) (Y' := Y_Mo_spell) (mem := mem) (As := [.int 116, .int 104, .int 97, .int 116, .int 0]) (lv := [(0, .int 4), (1, .int 0)]) (J := J) v_Mo_spell gs_spell d_Mo_letters_18 rfl (Nat.le_of_ble_eq_true rfl) (s_Mo_spell ?_) p e s m args below meth c C H locs ls hP hS hl
  intro p e s m args below meth c C H locs ls hP hS hl
  refine lv_goto C.1 C.2.1 d_Mo_letters_21 (tgt := 76) (by decide) ?_
  exact W.lret C.1 C.2.1 (C.2.2.2.1.trans rfl) (fun t ht hW => ⟨⟨some (.long (zlt 4 0)), mem, rfl, hQ, by rw [ht]; exact hP⟩, hS.F ht⟩) hS.2.2 d_Mo_letters_76 C.2.2.2.2.1
theorem s_Mo_letters_4_1 {J : Option Value → zM → Prop} (hQ : J (some (.long (zlt 4 1))) mem) : zT κ (d + 1) Y_Mo_letters 0 (lv_args 0 [.int 4, .int 1]) [] mem J := by
  intro p e s m args below meth c C H locs ls hP hS hl
  have hl : lv_has ls 2 [(0, .int 4), (1, .int 1)] := hl
  refine lv_iload_n C.1 C.2.1 d_Mo_letters_0 rfl (hl.2.2 (0, .int 4) (by simp)) ?_
  refine lv_iconst C.1 C.2.1 d_Mo_letters_1 (v := 4) (by decide) ?_
  refine lv_icmp_ne C.1 C.2.1 d_Mo_letters_2 (tgt := 77) (by decide) (fun z => absurd rfl z) (fun _ => ?_)
  refine lv_iload_n C.1 C.2.1 d_Mo_letters_5 rfl (hl.2.2 (1, .int 1) (by simp)) ?_
  refine lv_if_ne C.1 C.2.1 d_Mo_letters_6 (tgt := 24) (by decide) (fun _ => ?_) (fun z => absurd z (by decide))
  refine lv_iload_n C.1 C.2.1 d_Mo_letters_24 rfl (hl.2.2 (1, .int 1) (by simp)) ?_
  refine lv_iconst C.1 C.2.1 d_Mo_letters_25 (v := 1) (by decide) ?_
  refine lv_icmp_ne C.1 C.2.1 d_Mo_letters_26 (tgt := 44) (by decide) (fun z => absurd rfl z) (fun _ => ?_)
  refine lv_bipush C.1 C.2.1 d_Mo_letters_29 (v := 119) (by decide) ?_
  refine lv_bipush C.1 C.2.1 d_Mo_letters_31 (v := 105) (by decide) ?_
  refine lv_bipush C.1 C.2.1 d_Mo_letters_33 (v := 116) (by decide) ?_
  refine lv_bipush C.1 C.2.1 d_Mo_letters_35 (v := 104) (by decide) ?_
  refine lv_iconst C.1 C.2.1 d_Mo_letters_37 (v := 0) (by decide) ?_
  refine zT_callS (κ := κ) (d := d) (Y := Y_Mo_letters) (Y' := Y_Mo_spell) (mem := mem) (As := [.int 119, .int 105, .int 116, .int 104, .int 0]) (lv := [(0, .int 4), (1, .int 1)]) (J := J) v_Mo_spell gs_spell d_Mo_letters_38 rfl (Nat.le_of_ble_eq_true rfl) (s_Mo_spell ?_) p e s m args below meth c C H locs ls hP hS hl
  intro p e s m args below meth c C H locs ls hP hS hl
  refine lv_goto C.1 C.2.1 d_Mo_letters_41 (tgt := 76) (by decide) ?_
  exact W.lret C.1 C.2.1 (C.2.2.2.1.trans rfl) (fun t ht hW => ⟨⟨some (.long (zlt 4 1)), mem, rfl, hQ, by rw [ht]; exact hP⟩, hS.F ht⟩) hS.2.2 d_Mo_letters_76 C.2.2.2.2.1
theorem s_Mo_letters_4_2 {J : Option Value → zM → Prop} (hQ : J (some (.long (zlt 4 2))) mem) : zT κ (d + 1) Y_Mo_letters 0 (lv_args 0 [.int 4, .int 2]) [] mem J := by
  intro p e s m args below meth c C H locs ls hP hS hl
  have hl : lv_has ls 2 [(0, .int 4), (1, .int 2)] := hl
  refine lv_iload_n C.1 C.2.1 d_Mo_letters_0 rfl (hl.2.2 (0, .int 4) (by simp)) ?_
  refine lv_iconst C.1 C.2.1 d_Mo_letters_1 (v := 4) (by decide) ?_
  refine lv_icmp_ne C.1 C.2.1 d_Mo_letters_2 (tgt := 77) (by decide) (fun z => absurd rfl z) (fun _ => ?_)
  refine lv_iload_n C.1 C.2.1 d_Mo_letters_5 rfl (hl.2.2 (1, .int 2) (by simp)) ?_
  refine lv_if_ne C.1 C.2.1 d_Mo_letters_6 (tgt := 24) (by decide) (fun _ => ?_) (fun z => absurd z (by decide))
  refine lv_iload_n C.1 C.2.1 d_Mo_letters_24 rfl (hl.2.2 (1, .int 2) (by simp)) ?_
  refine lv_iconst C.1 C.2.1 d_Mo_letters_25 (v := 1) (by decide) ?_
  refine lv_icmp_ne C.1 C.2.1 d_Mo_letters_26 (tgt := 44) (by decide) (fun _ => ?_) (fun z => absurd z (by decide))
  refine lv_iload_n C.1 C.2.1 d_Mo_letters_44 rfl (hl.2.2 (1, .int 2) (by simp)) ?_
  refine lv_iconst C.1 C.2.1 d_Mo_letters_45 (v := 2) (by decide) ?_
  refine lv_icmp_ne C.1 C.2.1 d_Mo_letters_46 (tgt := 64) (by decide) (fun z => absurd rfl z) (fun _ => ?_)
  refine lv_bipush C.1 C.2.1 d_Mo_letters_49 (v := 102) (by decide) ?_
  refine lv_bipush C.1 C.2.1 d_Mo_letters_51 (v := 114) (by decide) ?_
  refine lv_bipush C.1 C.2.1 d_Mo_letters_53 (v := 111) (by decide) ?_
  refine lv_bipush C.1 C.2.1 d_Mo_letters_55 (v := 109) (by decide) ?_
  refine lv_iconst C.1 C.2.1 d_Mo_letters_57 (v := 0) (by decide) ?_
  refine zT_callS (κ := κ) (d := d) (Y := Y_Mo_letters) (Y' := Y_Mo_spell) (mem := mem) (As := [.int 102, .int 114, .int 111, .int 109, .int 0]) (lv := [(0, .int 4), (1, .int 2)]) (J := J) v_Mo_spell gs_spell d_Mo_letters_58 rfl (Nat.le_of_ble_eq_true rfl) (s_Mo_spell ?_) p e s m args below meth c C H locs ls hP hS hl
  intro p e s m args below meth c C H locs ls hP hS hl
  refine lv_goto C.1 C.2.1 d_Mo_letters_61 (tgt := 76) (by decide) ?_
  exact W.lret C.1 C.2.1 (C.2.2.2.1.trans rfl) (fun t ht hW => ⟨⟨some (.long (zlt 4 2)), mem, rfl, hQ, by rw [ht]; exact hP⟩, hS.F ht⟩) hS.2.2 d_Mo_letters_76 C.2.2.2.2.1
theorem s_Mo_letters_4_3 {J : Option Value → zM → Prop} (hQ : J (some (.long (zlt 4 3))) mem) : zT κ (d + 1) Y_Mo_letters 0 (lv_args 0 [.int 4, .int 3]) [] mem J := by
  intro p e s m args below meth c C H locs ls hP hS hl
  have hl : lv_has ls 2 [(0, .int 4), (1, .int 3)] := hl
  refine lv_iload_n C.1 C.2.1 d_Mo_letters_0 rfl (hl.2.2 (0, .int 4) (by simp)) ?_
  refine lv_iconst C.1 C.2.1 d_Mo_letters_1 (v := 4) (by decide) ?_
  refine lv_icmp_ne C.1 C.2.1 d_Mo_letters_2 (tgt := 77) (by decide) (fun z => absurd rfl z) (fun _ => ?_)
  refine lv_iload_n C.1 C.2.1 d_Mo_letters_5 rfl (hl.2.2 (1, .int 3) (by simp)) ?_
  refine lv_if_ne C.1 C.2.1 d_Mo_letters_6 (tgt := 24) (by decide) (fun _ => ?_) (fun z => absurd z (by decide))
  refine lv_iload_n C.1 C.2.1 d_Mo_letters_24 rfl (hl.2.2 (1, .int 3) (by simp)) ?_
  refine lv_iconst C.1 C.2.1 d_Mo_letters_25 (v := 1) (by decide) ?_
  refine lv_icmp_ne C.1 C.2.1 d_Mo_letters_26 (tgt := 44) (by decide) (fun _ => ?_) (fun z => absurd z (by decide))
  refine lv_iload_n C.1 C.2.1 d_Mo_letters_44 rfl (hl.2.2 (1, .int 3) (by simp)) ?_
  refine lv_iconst C.1 C.2.1 d_Mo_letters_45 (v := 2) (by decide) ?_
  refine lv_icmp_ne C.1 C.2.1 d_Mo_letters_46 (tgt := 64) (by decide) (fun _ => ?_) (fun z => absurd z (by decide))
  refine lv_bipush C.1 C.2.1 d_Mo_letters_64 (v := 104) (by decide) ?_
  refine lv_bipush C.1 C.2.1 d_Mo_letters_66 (v := 97) (by decide) ?_
  refine lv_bipush C.1 C.2.1 d_Mo_letters_68 (v := 118) (by decide) ?_
  refine lv_bipush C.1 C.2.1 d_Mo_letters_70 (v := 101) (by decide) ?_
  refine lv_iconst C.1 C.2.1 d_Mo_letters_72 (v := 0) (by decide) ?_
  refine zT_callS (κ := κ) (d := d) (Y := Y_Mo_letters) (Y' := Y_Mo_spell) (mem := mem) (As := [.int 104, .int 97, .int 118, .int 101, .int 0]) (lv := [(0, .int 4), (1, .int 3)]) (J := J) v_Mo_spell gs_spell d_Mo_letters_73 rfl (Nat.le_of_ble_eq_true rfl) (s_Mo_spell ?_) p e s m args below meth c C H locs ls hP hS hl
  intro p e s m args below meth c C H locs ls hP hS hl
  exact W.lret C.1 C.2.1 (C.2.2.2.1.trans rfl) (fun t ht hW => ⟨⟨some (.long (zlt 4 3)), mem, rfl, hQ, by rw [ht]; exact hP⟩, hS.F ht⟩) hS.2.2 d_Mo_letters_76 C.2.2.2.2.1
theorem s_Mo_letters_5_0 {J : Option Value → zM → Prop} (hQ : J (some (.long (zlt 5 0))) mem) : zT κ (d + 1) Y_Mo_letters 0 (lv_args 0 [.int 5, .int 0]) [] mem J := by
  intro p e s m args below meth c C H locs ls hP hS hl
  have hl : lv_has ls 2 [(0, .int 5), (1, .int 0)] := hl
  refine lv_iload_n C.1 C.2.1 d_Mo_letters_0 rfl (hl.2.2 (0, .int 5) (by simp)) ?_
  refine lv_iconst C.1 C.2.1 d_Mo_letters_1 (v := 4) (by decide) ?_
  refine lv_icmp_ne C.1 C.2.1 d_Mo_letters_2 (tgt := 77) (by decide) (fun _ => ?_) (fun z => absurd z (by decide))
  refine lv_iload_n C.1 C.2.1 d_Mo_letters_77 rfl (hl.2.2 (1, .int 0) (by simp)) ?_
  refine lv_if_ne C.1 C.2.1 d_Mo_letters_78 (tgt := 97) (by decide) (fun z => absurd rfl z) (fun _ => ?_)
  refine lv_bipush C.1 C.2.1 d_Mo_letters_81 (v := 119) (by decide) ?_
  refine lv_bipush C.1 C.2.1 d_Mo_letters_83 (v := 104) (by decide) ?_
  refine lv_bipush C.1 C.2.1 d_Mo_letters_85 (v := 105) (by decide) ?_
  refine lv_bipush C.1 C.2.1 d_Mo_letters_87 (v := 99) (by decide) ?_
  refine lv_bipush C.1 C.2.1 d_Mo_letters_89 (v := 104) (by decide) ?_
  refine zT_callS (κ := κ) (d := d) (Y := Y_Mo_letters) (Y' := Y_Mo_spell) (mem := mem) (As := [.int 119, .int 104, .int 105, .int 99, .int 104]) (lv := [(0, .int 5), (1, .int 0)]) (J := J) v_Mo_spell gs_spell d_Mo_letters_91 rfl (Nat.le_of_ble_eq_true rfl) (s_Mo_spell ?_) p e s m args below meth c C H locs ls hP hS hl
  intro p e s m args below meth c C H locs ls hP hS hl
  refine lv_goto C.1 C.2.1 d_Mo_letters_94 (tgt := 152) (by decide) ?_
  exact W.lret C.1 C.2.1 (C.2.2.2.1.trans rfl) (fun t ht hW => ⟨⟨some (.long (zlt 5 0)), mem, rfl, hQ, by rw [ht]; exact hP⟩, hS.F ht⟩) hS.2.2 d_Mo_letters_152 C.2.2.2.2.1
theorem s_Mo_letters_5_1 {J : Option Value → zM → Prop} (hQ : J (some (.long (zlt 5 1))) mem) : zT κ (d + 1) Y_Mo_letters 0 (lv_args 0 [.int 5, .int 1]) [] mem J := by
  intro p e s m args below meth c C H locs ls hP hS hl
  have hl : lv_has ls 2 [(0, .int 5), (1, .int 1)] := hl
  refine lv_iload_n C.1 C.2.1 d_Mo_letters_0 rfl (hl.2.2 (0, .int 5) (by simp)) ?_
  refine lv_iconst C.1 C.2.1 d_Mo_letters_1 (v := 4) (by decide) ?_
  refine lv_icmp_ne C.1 C.2.1 d_Mo_letters_2 (tgt := 77) (by decide) (fun _ => ?_) (fun z => absurd z (by decide))
  refine lv_iload_n C.1 C.2.1 d_Mo_letters_77 rfl (hl.2.2 (1, .int 1) (by simp)) ?_
  refine lv_if_ne C.1 C.2.1 d_Mo_letters_78 (tgt := 97) (by decide) (fun _ => ?_) (fun z => absurd z (by decide))
  refine lv_iload_n C.1 C.2.1 d_Mo_letters_97 rfl (hl.2.2 (1, .int 1) (by simp)) ?_
  refine lv_iconst C.1 C.2.1 d_Mo_letters_98 (v := 1) (by decide) ?_
  refine lv_icmp_ne C.1 C.2.1 d_Mo_letters_99 (tgt := 118) (by decide) (fun z => absurd rfl z) (fun _ => ?_)
  refine lv_bipush C.1 C.2.1 d_Mo_letters_102 (v := 116) (by decide) ?_
  refine lv_bipush C.1 C.2.1 d_Mo_letters_104 (v := 104) (by decide) ?_
  refine lv_bipush C.1 C.2.1 d_Mo_letters_106 (v := 101) (by decide) ?_
  refine lv_bipush C.1 C.2.1 d_Mo_letters_108 (v := 114) (by decide) ?_
  refine lv_bipush C.1 C.2.1 d_Mo_letters_110 (v := 101) (by decide) ?_
  refine zT_callS (κ := κ) (d := d) (Y := Y_Mo_letters) (Y' := Y_Mo_spell) (mem := mem) (As := [.int 116, .int 104, .int 101, .int 114, .int 101]) (lv := [(0, .int 5), (1, .int 1)]) (J := J) v_Mo_spell gs_spell d_Mo_letters_112 rfl (Nat.le_of_ble_eq_true rfl) (s_Mo_spell ?_) p e s m args below meth c C H locs ls hP hS hl
  intro p e s m args below meth c C H locs ls hP hS hl
  refine lv_goto C.1 C.2.1 d_Mo_letters_115 (tgt := 152) (by decide) ?_
  exact W.lret C.1 C.2.1 (C.2.2.2.1.trans rfl) (fun t ht hW => ⟨⟨some (.long (zlt 5 1)), mem, rfl, hQ, by rw [ht]; exact hP⟩, hS.F ht⟩) hS.2.2 d_Mo_letters_152 C.2.2.2.2.1
theorem s_Mo_letters_5_2 {J : Option Value → zM → Prop} (hQ : J (some (.long (zlt 5 2))) mem) : zT κ (d + 1) Y_Mo_letters 0 (lv_args 0 [.int 5, .int 2]) [] mem J := by
  intro p e s m args below meth c C H locs ls hP hS hl
  have hl : lv_has ls 2 [(0, .int 5), (1, .int 2)] := hl
  refine lv_iload_n C.1 C.2.1 d_Mo_letters_0 rfl (hl.2.2 (0, .int 5) (by simp)) ?_
  refine lv_iconst C.1 C.2.1 d_Mo_letters_1 (v := 4) (by decide) ?_
  refine lv_icmp_ne C.1 C.2.1 d_Mo_letters_2 (tgt := 77) (by decide) (fun _ => ?_) (fun z => absurd z (by decide))
  refine lv_iload_n C.1 C.2.1 d_Mo_letters_77 rfl (hl.2.2 (1, .int 2) (by simp)) ?_
  refine lv_if_ne C.1 C.2.1 d_Mo_letters_78 (tgt := 97) (by decide) (fun _ => ?_) (fun z => absurd z (by decide))
  refine lv_iload_n C.1 C.2.1 d_Mo_letters_97 rfl (hl.2.2 (1, .int 2) (by simp)) ?_
  refine lv_iconst C.1 C.2.1 d_Mo_letters_98 (v := 1) (by decide) ?_
  refine lv_icmp_ne C.1 C.2.1 d_Mo_letters_99 (tgt := 118) (by decide) (fun _ => ?_) (fun z => absurd z (by decide))
  refine lv_iload_n C.1 C.2.1 d_Mo_letters_118 rfl (hl.2.2 (1, .int 2) (by simp)) ?_
  refine lv_iconst C.1 C.2.1 d_Mo_letters_119 (v := 2) (by decide) ?_
  refine lv_icmp_ne C.1 C.2.1 d_Mo_letters_120 (tgt := 139) (by decide) (fun z => absurd rfl z) (fun _ => ?_)
  refine lv_bipush C.1 C.2.1 d_Mo_letters_123 (v := 116) (by decide) ?_
  refine lv_bipush C.1 C.2.1 d_Mo_letters_125 (v := 104) (by decide) ?_
  refine lv_bipush C.1 C.2.1 d_Mo_letters_127 (v := 101) (by decide) ?_
  refine lv_bipush C.1 C.2.1 d_Mo_letters_129 (v := 105) (by decide) ?_
  refine lv_bipush C.1 C.2.1 d_Mo_letters_131 (v := 114) (by decide) ?_
  refine zT_callS (κ := κ) (d := d) (Y := Y_Mo_letters) (Y' := Y_Mo_spell) (mem := mem) (As := [.int 116, .int 104, .int 101, .int 105, .int 114]) (lv := [(0, .int 5), (1, .int 2)]) (J := J) v_Mo_spell gs_spell d_Mo_letters_133 rfl (Nat.le_of_ble_eq_true rfl) (s_Mo_spell ?_) p e s m args below meth c C H locs ls hP hS hl
  intro p e s m args below meth c C H locs ls hP hS hl
  refine lv_goto C.1 C.2.1 d_Mo_letters_136 (tgt := 152) (by decide) ?_
  exact W.lret C.1 C.2.1 (C.2.2.2.1.trans rfl) (fun t ht hW => ⟨⟨some (.long (zlt 5 2)), mem, rfl, hQ, by rw [ht]; exact hP⟩, hS.F ht⟩) hS.2.2 d_Mo_letters_152 C.2.2.2.2.1
theorem s_Mo_letters_5_3 {J : Option Value → zM → Prop} (hQ : J (some (.long (zlt 5 3))) mem) : zT κ (d + 1) Y_Mo_letters 0 (lv_args 0 [.int 5, .int 3]) [] mem J := by
  intro p e s m args below meth c C H locs ls hP hS hl
  have hl : lv_has ls 2 [(0, .int 5), (1, .int 3)] := hl
  refine lv_iload_n C.1 C.2.1 d_Mo_letters_0 rfl (hl.2.2 (0, .int 5) (by simp)) ?_
  refine lv_iconst C.1 C.2.1 d_Mo_letters_1 (v := 4) (by decide) ?_
  refine lv_icmp_ne C.1 C.2.1 d_Mo_letters_2 (tgt := 77) (by decide) (fun _ => ?_) (fun z => absurd z (by decide))
  refine lv_iload_n C.1 C.2.1 d_Mo_letters_77 rfl (hl.2.2 (1, .int 3) (by simp)) ?_
  refine lv_if_ne C.1 C.2.1 d_Mo_letters_78 (tgt := 97) (by decide) (fun _ => ?_) (fun z => absurd z (by decide))
  refine lv_iload_n C.1 C.2.1 d_Mo_letters_97 rfl (hl.2.2 (1, .int 3) (by simp)) ?_
  refine lv_iconst C.1 C.2.1 d_Mo_letters_98 (v := 1) (by decide) ?_
  refine lv_icmp_ne C.1 C.2.1 d_Mo_letters_99 (tgt := 118) (by decide) (fun _ => ?_) (fun z => absurd z (by decide))
  refine lv_iload_n C.1 C.2.1 d_Mo_letters_118 rfl (hl.2.2 (1, .int 3) (by simp)) ?_
  refine lv_iconst C.1 C.2.1 d_Mo_letters_119 (v := 2) (by decide) ?_
  refine lv_icmp_ne C.1 C.2.1 d_Mo_letters_120 (tgt := 139) (by decide) (fun _ => ?_) (fun z => absurd z (by decide))
  refine lv_bipush C.1 C.2.1 d_Mo_letters_139 (v := 97) (by decide) ?_
  refine lv_bipush C.1 C.2.1 d_Mo_letters_141 (v := 98) (by decide) ?_
  refine lv_bipush C.1 C.2.1 d_Mo_letters_143 (v := 111) (by decide) ?_
  refine lv_bipush C.1 C.2.1 d_Mo_letters_145 (v := 117) (by decide) ?_
  refine lv_bipush C.1 C.2.1 d_Mo_letters_147 (v := 116) (by decide) ?_
  refine zT_callS (κ := κ) (d := d) (Y := Y_Mo_letters) (Y' := Y_Mo_spell) (mem := mem) (As := [.int 97, .int 98, .int 111, .int 117, .int 116]) (lv := [(0, .int 5), (1, .int 3)]) (J := J) v_Mo_spell gs_spell d_Mo_letters_149 rfl (Nat.le_of_ble_eq_true rfl) (s_Mo_spell ?_) p e s m args below meth c C H locs ls hP hS hl
  intro p e s m args below meth c C H locs ls hP hS hl
  exact W.lret C.1 C.2.1 (C.2.2.2.1.trans rfl) (fun t ht hW => ⟨⟨some (.long (zlt 5 3)), mem, rfl, hQ, by rw [ht]; exact hP⟩, hS.F ht⟩) hS.2.2 d_Mo_letters_152 C.2.2.2.2.1
theorem s_Mo_letters {m j : Nat} (hm : m = 4 ∨ m = 5) (hj : j < 4) {J : Option Value → zM → Prop} (hQ : J (some (.long (zlt m j))) mem) : zT κ (d + 1) Y_Mo_letters 0 (lv_args 0 [.int (nI m), .int (nI j)]) [] mem J := by
  rcases hm with rfl | rfl <;> rcases (show j = 0 ∨ j = 1 ∨ j = 2 ∨ j = 3 by omega) with rfl | rfl | rfl | rfl
  · exact s_Mo_letters_4_0 hQ
  · exact s_Mo_letters_4_1 hQ
  · exact s_Mo_letters_4_2 hQ
  · exact s_Mo_letters_4_3 hQ
  · exact s_Mo_letters_5_0 hQ
  · exact s_Mo_letters_5_1 hQ
  · exact s_Mo_letters_5_2 hQ
  · exact s_Mo_letters_5_3 hQ
theorem zlt_ch : ∀ i : Fin 2, ∀ j : Fin 4, ∀ k : Fin 5, k.val < i.val + 4 → (zlt (i.val + 4) j.val >>> ((8 * nI k.val).toInt64 &&& 63)).toInt32 &&& 255 = zch i.val (j.val * (i.val + 4) + k.val) := by decide +kernel
theorem s_Mo_letter {m j k : Nat} {Q : Option zV → zM → Prop} (hm : m = 4 ∨ m = 5) (hj : j < 4) (hk : k < m) (hQ : Q (some (.inl (zch (m - 4) (j * m + k)))) mem) : zR κ (d + 2) Y_Mo_letter 0 [some (.inl (nI m)), some (.inl (nI j)), some (.inl (nI k)), none, none] [] mem Q := by
  refine zR_ofT ?_
  intro p e s mm args below meth c C H locs ls hP hS hl
  have hl : lv_has ls 5 [(0, .int (nI m)), (1, .int (nI j)), (2, .int (nI k))] := hl
  refine lv_iload_n C.1 C.2.1 d_Mo_letter_0 rfl (hl.2.2 (0, .int (nI m)) (by simp)) ?_
  refine lv_iload_n C.1 C.2.1 d_Mo_letter_1 rfl (hl.2.2 (1, .int (nI j)) (by simp)) ?_
  refine zT_callS (κ := κ) (d := d + 1) (Y := Y_Mo_letter) (Y' := Y_Mo_letters) (mem := mem) (As := [.int (nI m), .int (nI j)]) (lv := [(0, .int (nI m)), (1, .int (nI j)), (2, .int (nI k))]) v_Mo_letters gs_letters d_Mo_letter_2 rfl (Nat.le_of_ble_eq_true rfl) (s_Mo_letters hm hj ?_) p e s mm args below meth c C H locs ls hP hS hl
  intro p e s mm args below meth c C H locs ls hP hS hl
  refine lv_lstore_n C.1 C.2.1 d_Mo_letter_5 rfl hl (by decide) rfl (fun ls1 hl1 => ?_)
  have hl1 : lv_has ls1 5 [(3, .long (zlt m j)), (0, .int (nI m)), (1, .int (nI j)), (2, .int (nI k))] := hl1
  refine lv_lload_n C.1 C.2.1 d_Mo_letter_6 rfl (hl1.2.2 (3, .long (zlt m j)) (by simp)) ?_
  refine lv_bipush C.1 C.2.1 d_Mo_letter_7 (v := 8) (by decide) ?_
  refine lv_iload_n C.1 C.2.1 d_Mo_letter_9 rfl (hl1.2.2 (2, .int (nI k)) (by simp)) ?_
  refine lv_imul C.1 C.2.1 d_Mo_letter_10 ?_
  refine lv_lshr C.1 C.2.1 d_Mo_letter_11 rfl ?_
  refine lv_l2i C.1 C.2.1 d_Mo_letter_12 rfl ?_
  refine lv_sipush C.1 C.2.1 d_Mo_letter_13 (v := 255) (by decide) ?_
  refine lv_iand C.1 C.2.1 d_Mo_letter_16 ?_
  have hv : (zlt m j >>> ((8 * nI k).toInt64 &&& 63)).toInt32 &&& 255 = zch (m - 4) (j * m + k) := by
    have h := zlt_ch ⟨m - 4, by omega⟩ ⟨j, hj⟩ ⟨k, by omega⟩
    have e : m - 4 + 4 = m := by omega
    simp only [e] at h
    exact h hk
  exact W.iret C.1 C.2.1 (C.2.2.2.1.trans rfl) (fun t ht hW => ⟨⟨some (.int ((zlt m j >>> ((8 * nI k).toInt64 &&& 63)).toInt32 &&& 255)), mem, rfl, ⟨some (.inl (zch (m - 4) (j * m + k))), by rw [hv]; rfl, hQ⟩, by rw [ht]; exact hP⟩, hS.F ht⟩) hS.2.2 d_Mo_letter_17 C.2.2.2.2.1
end zLong
