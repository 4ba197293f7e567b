/-! pieces of RingPacker$BitStream -/
theorem w_BitStream_add_0 {κ : zK} {d : Nat} {mem : zM} {Q : Option zV → zM → Prop} {x1 : Int32}
    (h : zR κ d Y_Rp_isByte 0 [some (.inl x1)] [] mem (fun r m1 => ∃ y2 : Int32, r = some (.inl y2) ∧ ((y2 = 0 → Q (some (.inl 0)) m1) ∧ (¬ y2 = 0 → (((m1 3 1) < 200 → vp_in (m1 3 1) 200 ∧ Q (some (.inl 1)) (zms (zms m1 4 (m1 3 1).toNatClampNeg x1) 3 1 ((m1 3 1) + 1))) ∧ (¬ (m1 3 1) < 200 → Q (some (.inl 0)) m1)))))) : zR κ (d + 1) Y_BitStream_add 0 [some (.inr 3), some (.inl x1)] [] mem Q := by
  refine zR_iload_n d_BitStream_add_0 rfl rfl ?_
  refine zR_callSN (Y' := Y_Rp_isByte) (n := 1) (A := [.inl x1]) (S := []) v_Rp_isByte n_0 d_BitStream_add_1 rfl (Nat.le_of_ble_eq_true rfl) rfl (zR_cons ?_ h)
  rintro r_ m1 ⟨y2, rfl, h⟩
  show zR κ (d + 1) Y_BitStream_add 4 [some (.inr 3), some (.inl x1)] [.inl y2] m1 Q
  refine zR_if_eq (tgt := 17) d_BitStream_add_4 (by decide) (fun h1 => ?_) (fun h1 => ?_)
  · replace h := h.1 h1
    refine zR_iconst (v := 0) d_BitStream_add_17 (by decide) ?_
    exact zR_zreturn rfl d_BitStream_add_18 (Or.inl rfl) h
  · replace h := h.2 h1
    refine zR_aload_n d_BitStream_add_7 rfl rfl ?_
    refine zR_getI (j := 1) d_BitStream_add_8 sh_3 cl_BitStream rfl (by decide) g_1 ?_
    refine zR_sipush (v := 200) d_BitStream_add_11 (by decide) ?_
    refine zR_icmp_lt (tgt := 19) d_BitStream_add_14 (by decide) (fun h1 => ?_) (fun h1 => ?_)
    · replace h := h.1 h1
      refine zR_aload_n d_BitStream_add_19 rfl rfl ?_
      refine zR_getR (j := 0) d_BitStream_add_20 sh_3 cl_BitStream rfl (by decide) g_2 ?_
      refine zR_aload_n d_BitStream_add_23 rfl rfl ?_
      refine zR_getI (j := 1) d_BitStream_add_24 sh_3 cl_BitStream rfl (by decide) g_1 ?_
      refine zR_iload_n d_BitStream_add_27 rfl rfl ?_
      refine zR_iastore d_BitStream_add_28 sh_4 h.1 rfl ?_
      replace h := h.2
      refine zR_aload_n d_BitStream_add_29 rfl rfl ?_
      refine zR_dup d_BitStream_add_30 ?_
      refine zR_getI (j := 1) d_BitStream_add_31 sh_3 cl_BitStream rfl (by decide) g_1 ?_
      refine zR_iconst (v := 1) d_BitStream_add_34 (by decide) ?_
      refine zR_iadd d_BitStream_add_35 ?_
      refine zR_put (j := 1) (ty := .int) d_BitStream_add_36 sh_3 cl_BitStream rfl (by decide) rfl (by decide +kernel) g_1 (zint _) ?_
      refine zR_iconst (v := 1) d_BitStream_add_39 (by decide) ?_
      exact zR_zreturn rfl d_BitStream_add_40 (Or.inr rfl) h
    · replace h := h.2 h1
      refine zR_iconst (v := 0) d_BitStream_add_17 (by decide) ?_
      exact zR_zreturn rfl d_BitStream_add_18 (Or.inl rfl) h
theorem w_BitStream_get_0 {κ : zK} {d : Nat} {mem : zM} {Q : Option zV → zM → Prop} {x1 : Int32}
    (h : ((x1 < 0 → Q (some (.inl (-1))) mem) ∧ (¬ x1 < 0 → (((mem 3 1) ≤ x1 → Q (some (.inl (-1))) mem) ∧ (¬ (mem 3 1) ≤ x1 → vp_in x1 200 ∧ Q (some (.inl (mem 4 x1.toNatClampNeg))) mem))))) : zR κ d Y_BitStream_get 0 [some (.inr 3), some (.inl x1)] [] mem Q := by
  refine zR_iload_n d_BitStream_get_0 rfl rfl ?_
  refine zR_if_lt (tgt := 21) d_BitStream_get_1 (by decide) (fun h1 => ?_) (fun h1 => ?_)
  · replace h := h.1 h1
    refine zR_iconst (v := (-1)) d_BitStream_get_21 (by decide) ?_
    exact zR_ireturn rfl d_BitStream_get_22 h
  · replace h := h.2 h1
    refine zR_iload_n d_BitStream_get_4 rfl rfl ?_
    refine zR_aload_n d_BitStream_get_5 rfl rfl ?_
    refine zR_getI (j := 1) d_BitStream_get_6 sh_3 cl_BitStream rfl (by decide) g_1 ?_
    refine zR_icmp_ge (tgt := 21) d_BitStream_get_9 (by decide) (fun h1 => ?_) (fun h1 => ?_)
    · replace h := h.1 h1
      refine zR_iconst (v := (-1)) d_BitStream_get_21 (by decide) ?_
      exact zR_ireturn rfl d_BitStream_get_22 h
    · replace h := h.2 h1
      refine zR_aload_n d_BitStream_get_12 rfl rfl ?_
      refine zR_getR (j := 0) d_BitStream_get_13 sh_3 cl_BitStream rfl (by decide) g_2 ?_
      refine zR_iload_n d_BitStream_get_16 rfl rfl ?_
      refine zR_iaload d_BitStream_get_17 sh_4 h.1 rfl ?_
      replace h := h.2
      refine zR_goto (tgt := 22) d_BitStream_get_18 (by decide) ?_
      exact zR_ireturn rfl d_BitStream_get_22 h
theorem w_BitStream_change_0 {κ : zK} {d : Nat} {mem : zM} {Q : Option zV → zM → Prop} {x1 x2 : Int32}
    (h : ((x1 < 0 → Q (some (.inl 0)) mem) ∧ (¬ x1 < 0 → (((mem 3 1) ≤ x1 → Q (some (.inl 0)) mem) ∧ (¬ (mem 3 1) ≤ x1 → zR κ d Y_Rp_isByte 0 [some (.inl x2)] [] mem (fun r m1 => ∃ y2 : Int32, r = some (.inl y2) ∧ ((¬ y2 = 0 → vp_in x1 200 ∧ Q (some (.inl 1)) (zms m1 4 x1.toNatClampNeg x2)) ∧ (y2 = 0 → Q (some (.inl 0)) m1)))))))) : zR κ (d + 1) Y_BitStream_change 0 [some (.inr 3), some (.inl x1), some (.inl x2)] [] mem Q := by
  refine zR_iload_n d_BitStream_change_0 rfl rfl ?_
  refine zR_if_lt (tgt := 19) d_BitStream_change_1 (by decide) (fun h1 => ?_) (fun h1 => ?_)
  · replace h := h.1 h1
    refine zR_iconst (v := 0) d_BitStream_change_19 (by decide) ?_
    exact zR_zreturn rfl d_BitStream_change_20 (Or.inl rfl) h
  · replace h := h.2 h1
    refine zR_iload_n d_BitStream_change_4 rfl rfl ?_
    refine zR_aload_n d_BitStream_change_5 rfl rfl ?_
    refine zR_getI (j := 1) d_BitStream_change_6 sh_3 cl_BitStream rfl (by decide) g_1 ?_
    refine zR_icmp_ge (tgt := 19) d_BitStream_change_9 (by decide) (fun h1 => ?_) (fun h1 => ?_)
    · replace h := h.1 h1
      refine zR_iconst (v := 0) d_BitStream_change_19 (by decide) ?_
      exact zR_zreturn rfl d_BitStream_change_20 (Or.inl rfl) h
    · replace h := h.2 h1
      refine zR_iload_n d_BitStream_change_12 rfl rfl ?_
      refine zR_callSN (Y' := Y_Rp_isByte) (n := 1) (A := [.inl x2]) (S := []) v_Rp_isByte n_0 d_BitStream_change_13 rfl (Nat.le_of_ble_eq_true rfl) rfl (zR_cons ?_ h)
      rintro r_ m1 ⟨y2, rfl, h⟩
      show zR κ (d + 1) Y_BitStream_change 16 [some (.inr 3), some (.inl x1), some (.inl x2)] [.inl y2] m1 Q
      refine zR_if_ne (tgt := 21) d_BitStream_change_16 (by decide) (fun h1 => ?_) (fun h1 => ?_)
      · replace h := h.1 h1
        refine zR_aload_n d_BitStream_change_21 rfl rfl ?_
        refine zR_getR (j := 0) d_BitStream_change_22 sh_3 cl_BitStream rfl (by decide) g_2 ?_
        refine zR_iload_n d_BitStream_change_25 rfl rfl ?_
        refine zR_iload_n d_BitStream_change_26 rfl rfl ?_
        refine zR_iastore d_BitStream_change_27 sh_4 h.1 rfl ?_
        replace h := h.2
        refine zR_iconst (v := 1) d_BitStream_change_28 (by decide) ?_
        exact zR_zreturn rfl d_BitStream_change_29 (Or.inr rfl) h
      · replace h := h.2 h1
        refine zR_iconst (v := 0) d_BitStream_change_19 (by decide) ?_
        exact zR_zreturn rfl d_BitStream_change_20 (Or.inl rfl) h
theorem w_BitStream_keep_0 {κ : zK} {d : Nat} {mem : zM} {Q : Option zV → zM → Prop} {x1 : Int32}
    (h : ((x1 < 0 → Q (some (.inl 0)) mem) ∧ (¬ x1 < 0 → ((x1 ≤ (mem 3 1) → Q (some (.inl 1)) (zms mem 3 1 x1)) ∧ (¬ x1 ≤ (mem 3 1) → Q (some (.inl 0)) mem))))) : zR κ d Y_BitStream_keep 0 [some (.inr 3), some (.inl x1)] [] mem Q := by
  refine zR_iload_n d_BitStream_keep_0 rfl rfl ?_
  refine zR_if_lt (tgt := 12) d_BitStream_keep_1 (by decide) (fun h1 => ?_) (fun h1 => ?_)
  · replace h := h.1 h1
    refine zR_iconst (v := 0) d_BitStream_keep_12 (by decide) ?_
    exact zR_zreturn rfl d_BitStream_keep_13 (Or.inl rfl) h
  · replace h := h.2 h1
    refine zR_iload_n d_BitStream_keep_4 rfl rfl ?_
    refine zR_aload_n d_BitStream_keep_5 rfl rfl ?_
    refine zR_getI (j := 1) d_BitStream_keep_6 sh_3 cl_BitStream rfl (by decide) g_1 ?_
    refine zR_icmp_le (tgt := 14) d_BitStream_keep_9 (by decide) (fun h1 => ?_) (fun h1 => ?_)
    · replace h := h.1 h1
      refine zR_aload_n d_BitStream_keep_14 rfl rfl ?_
      refine zR_iload_n d_BitStream_keep_15 rfl rfl ?_
      refine zR_put (j := 1) (ty := .int) d_BitStream_keep_16 sh_3 cl_BitStream rfl (by decide) rfl (by decide +kernel) g_1 (zint _) ?_
      refine zR_iconst (v := 1) d_BitStream_keep_19 (by decide) ?_
      exact zR_zreturn rfl d_BitStream_keep_20 (Or.inr rfl) h
    · replace h := h.2 h1
      refine zR_iconst (v := 0) d_BitStream_keep_12 (by decide) ?_
      exact zR_zreturn rfl d_BitStream_keep_13 (Or.inl rfl) h
theorem w_BitStream_startReading_0 {κ : zK} {d : Nat} {mem : zM} {Q : Option zV → zM → Prop}
    (h : Q none (zms (zms mem 3 2 0) 3 3 0)) : zR κ d Y_BitStream_startReading 0 [some (.inr 3)] [] mem Q := by
  refine zR_aload_n d_BitStream_startReading_0 rfl rfl ?_
  refine zR_iconst (v := 0) d_BitStream_startReading_1 (by decide) ?_
  refine zR_put (j := 2) (ty := .int) d_BitStream_startReading_2 sh_3 cl_BitStream rfl (by decide) rfl (by decide +kernel) g_3 (zint _) ?_
  refine zR_aload_n d_BitStream_startReading_5 rfl rfl ?_
  refine zR_iconst (v := 0) d_BitStream_startReading_6 (by decide) ?_
  refine zR_put (j := 3) (ty := .boolean) d_BitStream_startReading_7 sh_3 cl_BitStream rfl (by decide) rfl (by decide +kernel) g_4 (zbool (Or.inl rfl)) ?_
  exact zR_return rfl d_BitStream_startReading_10 h
theorem w_BitStream_take_0 {κ : zK} {d : Nat} {mem : zM} {Q : Option zV → zM → Prop} {x1 : Int32}
    (h : zR κ d Y_BitStream_take 4 [some (.inr 3), some (.inl x1), some (.inl 0), some (.inl 0)] [] mem Q) : zR κ d Y_BitStream_take 0 [some (.inr 3), some (.inl x1), none, none] [] mem Q := by
  refine zR_iconst (v := 0) d_BitStream_take_0 (by decide) ?_
  refine zR_istore_n d_BitStream_take_1 rfl (by decide) ?_
  refine zR_iconst (v := 0) d_BitStream_take_2 (by decide) ?_
  refine zR_istore_n d_BitStream_take_3 rfl (by decide) ?_
  exact h
theorem w_BitStream_take_4 {κ : zK} {d : Nat} {mem : zM} {Q : Option zV → zM → Prop} {x1 x2 x3 : Int32}
    (h : ((x1 ≤ x3 → Q (some (.inl x2)) mem) ∧ (¬ x1 ≤ x3 → (((mem 3 2) < (8 * (mem 3 1)) → vp_in ((mem 3 2) >>> (3 : Int32)) 200 ∧ zR κ d Y_BitStream_take 4 [some (.inr 3), some (.inl x1), some (.inl (x2 ||| ((((mem 4 ((mem 3 2) >>> (3 : Int32)).toNatClampNeg) >>> (((mem 3 2) &&& 7) &&& 31)) &&& 1) <<< (x3 &&& 31)))), some (.inl (x3 + 1))] [] (zms mem 3 2 ((mem 3 2) + 1)) Q) ∧ (¬ (mem 3 2) < (8 * (mem 3 1)) → zR κ d Y_BitStream_take 4 [some (.inr 3), some (.inl x1), some (.inl x2), some (.inl (x3 + 1))] [] (zms mem 3 3 1) Q))))) : zR κ d Y_BitStream_take 4 [some (.inr 3), some (.inl x1), some (.inl x2), some (.inl x3)] [] mem Q := by
  refine zR_iload_n d_BitStream_take_4 rfl rfl ?_
  refine zR_iload_n d_BitStream_take_5 rfl rfl ?_
  refine zR_icmp_ge (tgt := 73) d_BitStream_take_6 (by decide) (fun h1 => ?_) (fun h1 => ?_)
  · replace h := h.1 h1
    refine zR_iload_n d_BitStream_take_73 rfl rfl ?_
    exact zR_ireturn rfl d_BitStream_take_74 h
  · replace h := h.2 h1
    refine zR_aload_n d_BitStream_take_9 rfl rfl ?_
    refine zR_getI (j := 2) d_BitStream_take_10 sh_3 cl_BitStream rfl (by decide) g_3 ?_
    refine zR_bipush (v := 8) d_BitStream_take_13 (by decide) ?_
    refine zR_aload_n d_BitStream_take_15 rfl rfl ?_
    refine zR_getI (j := 1) d_BitStream_take_16 sh_3 cl_BitStream rfl (by decide) g_1 ?_
    refine zR_imul d_BitStream_take_19 ?_
    refine zR_icmp_lt (tgt := 31) d_BitStream_take_20 (by decide) (fun h1 => ?_) (fun h1 => ?_)
    · replace h := h.1 h1
      refine zR_iload_n d_BitStream_take_31 rfl rfl ?_
      refine zR_aload_n d_BitStream_take_32 rfl rfl ?_
      refine zR_getR (j := 0) d_BitStream_take_33 sh_3 cl_BitStream rfl (by decide) g_2 ?_
      refine zR_aload_n d_BitStream_take_36 rfl rfl ?_
      refine zR_getI (j := 2) d_BitStream_take_37 sh_3 cl_BitStream rfl (by decide) g_3 ?_
      refine zR_iconst (v := 3) d_BitStream_take_40 (by decide) ?_
      refine zR_ishr (z := 3) d_BitStream_take_41 (by decide) ?_
      refine zR_iaload d_BitStream_take_42 sh_4 h.1 rfl ?_
      replace h := h.2
      refine zR_aload_n d_BitStream_take_43 rfl rfl ?_
      refine zR_getI (j := 2) d_BitStream_take_44 sh_3 cl_BitStream rfl (by decide) g_3 ?_
      refine zR_bipush (v := 7) d_BitStream_take_47 (by decide) ?_
      refine zR_iand d_BitStream_take_49 ?_
      refine zR_ishr d_BitStream_take_50 rfl ?_
      refine zR_iconst (v := 1) d_BitStream_take_51 (by decide) ?_
      refine zR_iand d_BitStream_take_52 ?_
      refine zR_iload_n d_BitStream_take_53 rfl rfl ?_
      refine zR_ishl d_BitStream_take_54 rfl ?_
      refine zR_ior d_BitStream_take_55 ?_
      refine zR_istore_n d_BitStream_take_56 rfl (by decide) ?_
      refine zR_aload_n d_BitStream_take_57 rfl rfl ?_
      refine zR_dup d_BitStream_take_58 ?_
      refine zR_getI (j := 2) d_BitStream_take_59 sh_3 cl_BitStream rfl (by decide) g_3 ?_
      refine zR_iconst (v := 1) d_BitStream_take_62 (by decide) ?_
      refine zR_iadd d_BitStream_take_63 ?_
      refine zR_put (j := 2) (ty := .int) d_BitStream_take_64 sh_3 cl_BitStream rfl (by decide) rfl (by decide +kernel) g_3 (zint _) ?_
      refine zR_iinc (v := 1) d_BitStream_take_67 rfl (by decide) (by decide) ?_
      refine zR_goto (tgt := 4) d_BitStream_take_70 (by decide) ?_
      exact h
    · replace h := h.2 h1
      refine zR_aload_n d_BitStream_take_23 rfl rfl ?_
      refine zR_iconst (v := 1) d_BitStream_take_24 (by decide) ?_
      refine zR_put (j := 3) (ty := .boolean) d_BitStream_take_25 sh_3 cl_BitStream rfl (by decide) rfl (by decide +kernel) g_4 (zbool (Or.inr rfl)) ?_
      refine zR_goto (tgt := 67) d_BitStream_take_28 (by decide) ?_
      refine zR_iinc (v := 1) d_BitStream_take_67 rfl (by decide) (by decide) ?_
      refine zR_goto (tgt := 4) d_BitStream_take_70 (by decide) ?_
      exact h
theorem w_BitStream_takeZerosToByteEnd_0 {κ : zK} {d : Nat} {mem : zM} {Q : Option zV → zM → Prop}
    (h : zR κ d Y_BitStream_take 0 [some (.inr 3), some (.inl ((-(mem 3 2)) &&& 7)), none, none] [] mem (fun r m1 => ∃ y2 : Int32, r = some (.inl y2) ∧ ((¬ y2 = 0 → Q (some (.inl 0)) m1) ∧ (y2 = 0 → Q (some (.inl 1)) m1)))) : zR κ (d + 1) Y_BitStream_takeZerosToByteEnd 0 [some (.inr 3), none] [] mem Q := by
  refine zR_aload_n d_BitStream_takeZerosToByteEnd_0 rfl rfl ?_
  refine zR_getI (j := 2) d_BitStream_takeZerosToByteEnd_1 sh_3 cl_BitStream rfl (by decide) g_3 ?_
  refine zR_ineg d_BitStream_takeZerosToByteEnd_4 ?_
  refine zR_bipush (v := 7) d_BitStream_takeZerosToByteEnd_5 (by decide) ?_
  refine zR_iand d_BitStream_takeZerosToByteEnd_7 ?_
  refine zR_istore_n d_BitStream_takeZerosToByteEnd_8 rfl (by decide) ?_
  refine zR_aload_n d_BitStream_takeZerosToByteEnd_9 rfl rfl ?_
  refine zR_iload_n d_BitStream_takeZerosToByteEnd_10 rfl rfl ?_
  refine zR_callV (Y' := Y_BitStream_take) (n := 1) (A := [.inl ((-(mem 3 2)) &&& 7)]) (b := 3) (S := []) v_BitStream_take g_5 sh_3 cl_BitStream rfl d_BitStream_takeZerosToByteEnd_11 rfl (Nat.le_of_ble_eq_true rfl) rfl (zR_cons ?_ h)
  rintro r_ m1 ⟨y2, rfl, h⟩
  show zR κ (d + 1) Y_BitStream_takeZerosToByteEnd 14 [some (.inr 3), some (.inl ((-(mem 3 2)) &&& 7))] [.inl y2] m1 Q
  refine zR_if_ne (tgt := 21) d_BitStream_takeZerosToByteEnd_14 (by decide) (fun h1 => ?_) (fun h1 => ?_)
  · replace h := h.1 h1
    refine zR_iconst (v := 0) d_BitStream_takeZerosToByteEnd_21 (by decide) ?_
    exact zR_zreturn rfl d_BitStream_takeZerosToByteEnd_22 (Or.inl rfl) h
  · replace h := h.2 h1
    refine zR_iconst (v := 1) d_BitStream_takeZerosToByteEnd_17 (by decide) ?_
    refine zR_goto (tgt := 22) d_BitStream_takeZerosToByteEnd_18 (by decide) ?_
    exact zR_zreturn rfl d_BitStream_takeZerosToByteEnd_22 (Or.inr rfl) h
theorem w_BitStream_isReadWhole_0 {κ : zK} {d : Nat} {mem : zM} {Q : Option zV → zM → Prop}
    (h : ((¬ (mem 3 3) = 0 → Q (some (.inl 0)) mem) ∧ ((mem 3 3) = 0 → zR κ d Y_BitStream_takeZerosToByteEnd 0 [some (.inr 3), none] [] mem (fun r m1 => ∃ y2 : Int32, r = some (.inl y2) ∧ ((y2 = 0 → Q (some (.inl 0)) m1) ∧ (¬ y2 = 0 → ((¬ (m1 3 2) = (8 * (m1 3 1)) → Q (some (.inl 0)) m1) ∧ ((m1 3 2) = (8 * (m1 3 1)) → Q (some (.inl 1)) m1)))))))) : zR κ (d + 1) Y_BitStream_isReadWhole 0 [some (.inr 3)] [] mem Q := by
  refine zR_aload_n d_BitStream_isReadWhole_0 rfl rfl ?_
  refine zR_getI (j := 3) d_BitStream_isReadWhole_1 sh_3 cl_BitStream rfl (by decide) g_4 ?_
  refine zR_if_ne (tgt := 32) d_BitStream_isReadWhole_4 (by decide) (fun h1 => ?_) (fun h1 => ?_)
  · replace h := h.1 h1
    refine zR_iconst (v := 0) d_BitStream_isReadWhole_32 (by decide) ?_
    exact zR_zreturn rfl d_BitStream_isReadWhole_33 (Or.inl rfl) h
  · replace h := h.2 h1
    refine zR_aload_n d_BitStream_isReadWhole_7 rfl rfl ?_
    refine zR_callV (Y' := Y_BitStream_takeZerosToByteEnd) (n := 0) (A := []) (b := 3) (S := []) v_BitStream_takeZerosToByteEnd g_6 sh_3 cl_BitStream rfl d_BitStream_isReadWhole_8 rfl (Nat.le_of_ble_eq_true rfl) rfl (zR_cons ?_ h)
    rintro r_ m1 ⟨y2, rfl, h⟩
    show zR κ (d + 1) Y_BitStream_isReadWhole 11 [some (.inr 3)] [.inl y2] m1 Q
    refine zR_if_eq (tgt := 32) d_BitStream_isReadWhole_11 (by decide) (fun h1 => ?_) (fun h1 => ?_)
    · replace h := h.1 h1
      refine zR_iconst (v := 0) d_BitStream_isReadWhole_32 (by decide) ?_
      exact zR_zreturn rfl d_BitStream_isReadWhole_33 (Or.inl rfl) h
    · replace h := h.2 h1
      refine zR_aload_n d_BitStream_isReadWhole_14 rfl rfl ?_
      refine zR_getI (j := 2) d_BitStream_isReadWhole_15 sh_3 cl_BitStream rfl (by decide) g_3 ?_
      refine zR_bipush (v := 8) d_BitStream_isReadWhole_18 (by decide) ?_
      refine zR_aload_n d_BitStream_isReadWhole_20 rfl rfl ?_
      refine zR_getI (j := 1) d_BitStream_isReadWhole_21 sh_3 cl_BitStream rfl (by decide) g_1 ?_
      refine zR_imul d_BitStream_isReadWhole_24 ?_
      refine zR_icmp_ne (tgt := 32) d_BitStream_isReadWhole_25 (by decide) (fun h1 => ?_) (fun h1 => ?_)
      · replace h := h.1 h1
        refine zR_iconst (v := 0) d_BitStream_isReadWhole_32 (by decide) ?_
        exact zR_zreturn rfl d_BitStream_isReadWhole_33 (Or.inl rfl) h
      · replace h := h.2 h1
        refine zR_iconst (v := 1) d_BitStream_isReadWhole_28 (by decide) ?_
        refine zR_goto (tgt := 33) d_BitStream_isReadWhole_29 (by decide) ?_
        exact zR_zreturn rfl d_BitStream_isReadWhole_33 (Or.inr rfl) h
theorem w_BitStream_startWriting_0 {κ : zK} {d : Nat} {mem : zM} {Q : Option zV → zM → Prop}
    (h : Q none (zms mem 3 2 0)) : zR κ d Y_BitStream_startWriting 0 [some (.inr 3)] [] mem Q := by
  refine zR_aload_n d_BitStream_startWriting_0 rfl rfl ?_
  refine zR_iconst (v := 0) d_BitStream_startWriting_1 (by decide) ?_
  refine zR_put (j := 2) (ty := .int) d_BitStream_startWriting_2 sh_3 cl_BitStream rfl (by decide) rfl (by decide +kernel) g_3 (zint _) ?_
  exact zR_return rfl d_BitStream_startWriting_5 h
theorem w_BitStream_goBackTo_0 {κ : zK} {d : Nat} {mem : zM} {Q : Option zV → zM → Prop} {x1 : Int32}
    (h : Q none (zms mem 3 2 x1)) : zR κ d Y_BitStream_goBackTo 0 [some (.inr 3), some (.inl x1)] [] mem Q := by
  refine zR_aload_n d_BitStream_goBackTo_0 rfl rfl ?_
  refine zR_iload_n d_BitStream_goBackTo_1 rfl rfl ?_
  refine zR_put (j := 2) (ty := .int) d_BitStream_goBackTo_2 sh_3 cl_BitStream rfl (by decide) rfl (by decide +kernel) g_3 (zint _) ?_
  exact zR_return rfl d_BitStream_goBackTo_5 h
theorem w_BitStream_give_0 {κ : zK} {d : Nat} {mem : zM} {Q : Option zV → zM → Prop} {x1 x2 : Int32}
    (h : zR κ d Y_BitStream_give 2 [some (.inr 3), some (.inl x1), some (.inl x2), some (.inl 0), none, none] [] mem Q) : zR κ d Y_BitStream_give 0 [some (.inr 3), some (.inl x1), some (.inl x2), none, none, none] [] mem Q := by
  refine zR_iconst (v := 0) d_BitStream_give_0 (by decide) ?_
  refine zR_istore_n d_BitStream_give_1 rfl (by decide) ?_
  exact h
theorem w_BitStream_give_2 {κ : zK} {d : Nat} {mem : zM} {Q : Option zV → zM → Prop} {x1 x2 x3 : Int32}
    (h : ((x2 ≤ x3 → Q none mem) ∧ (¬ x2 ≤ x3 → ((200 ≤ ((mem 3 2) >>> (3 : Int32)) → zR κ d Y_BitStream_give 2 [some (.inr 3), some (.inl x1), some (.inl x2), some (.inl (x3 + 1)), none, none] [] (zms mem 3 2 ((mem 3 2) + 1)) Q) ∧ (¬ 200 ≤ ((mem 3 2) >>> (3 : Int32)) → ((¬ ((x1 >>> (x3 &&& 31)) &&& 1) = 1 → vp_in ((mem 3 2) >>> (3 : Int32)) 200 ∧ vp_in ((mem 3 2) >>> (3 : Int32)) 200 ∧ zR κ d Y_BitStream_give 2 [some (.inr 3), some (.inl x1), some (.inl x2), some (.inl (x3 + 1)), none, none] [] (zms (zms mem 4 ((mem 3 2) >>> (3 : Int32)).toNatClampNeg ((mem 4 ((mem 3 2) >>> (3 : Int32)).toNatClampNeg) &&& (((1 : Int32) <<< (((mem 3 2) &&& 7) &&& 31)) ^^^ (-1)))) 3 2 ((mem 3 2) + 1)) Q) ∧ (((x1 >>> (x3 &&& 31)) &&& 1) = 1 → vp_in ((mem 3 2) >>> (3 : Int32)) 200 ∧ vp_in ((mem 3 2) >>> (3 : Int32)) 200 ∧ zR κ d Y_BitStream_give 2 [some (.inr 3), some (.inl x1), some (.inl x2), some (.inl (x3 + 1)), none, none] [] (zms (zms mem 4 ((mem 3 2) >>> (3 : Int32)).toNatClampNeg ((mem 4 ((mem 3 2) >>> (3 : Int32)).toNatClampNeg) ||| ((1 : Int32) <<< (((mem 3 2) &&& 7) &&& 31)))) 3 2 ((mem 3 2) + 1)) Q))))))) : zR κ d Y_BitStream_give 2 [some (.inr 3), some (.inl x1), some (.inl x2), some (.inl x3), none, none] [] mem Q := by
  refine zR_iload_n d_BitStream_give_2 rfl rfl ?_
  refine zR_iload_n d_BitStream_give_3 rfl rfl ?_
  refine zR_icmp_ge (tgt := 91) d_BitStream_give_4 (by decide) (fun h1 => ?_) (fun h1 => ?_)
  · replace h := h.1 h1
    exact zR_return rfl d_BitStream_give_91 h
  · replace h := h.2 h1
    refine zR_aload_n d_BitStream_give_7 rfl rfl ?_
    refine zR_getI (j := 2) d_BitStream_give_8 sh_3 cl_BitStream rfl (by decide) g_3 ?_
    refine zR_iconst (v := 3) d_BitStream_give_11 (by decide) ?_
    refine zR_ishr (z := 3) d_BitStream_give_12 (by decide) ?_
    refine zR_istore d_BitStream_give_13 (by decide) ?_
    refine zR_iconst (v := 1) d_BitStream_give_15 (by decide) ?_
    refine zR_aload_n d_BitStream_give_16 rfl rfl ?_
    refine zR_getI (j := 2) d_BitStream_give_17 sh_3 cl_BitStream rfl (by decide) g_3 ?_
    refine zR_bipush (v := 7) d_BitStream_give_20 (by decide) ?_
    refine zR_iand d_BitStream_give_22 ?_
    refine zR_ishl d_BitStream_give_23 rfl ?_
    refine zR_istore d_BitStream_give_24 (by decide) ?_
    refine zR_iload d_BitStream_give_26 rfl ?_
    refine zR_sipush (v := 200) d_BitStream_give_28 (by decide) ?_
    refine zR_icmp_ge (tgt := 75) d_BitStream_give_31 (by decide) (fun h1 => ?_) (fun h1 => ?_)
    · replace h := h.1 h1
      refine zR_aload_n d_BitStream_give_75 rfl rfl ?_
      refine zR_dup d_BitStream_give_76 ?_
      refine zR_getI (j := 2) d_BitStream_give_77 sh_3 cl_BitStream rfl (by decide) g_3 ?_
      refine zR_iconst (v := 1) d_BitStream_give_80 (by decide) ?_
      refine zR_iadd d_BitStream_give_81 ?_
      refine zR_put (j := 2) (ty := .int) d_BitStream_give_82 sh_3 cl_BitStream rfl (by decide) rfl (by decide +kernel) g_3 (zint _) ?_
      refine zR_iinc (v := 1) d_BitStream_give_85 rfl (by decide) (by decide) ?_
      refine zR_goto (tgt := 2) d_BitStream_give_88 (by decide) ?_
      refine zR_drop 4 ?_
      refine zR_drop 5 ?_
      exact h
    · replace h := h.2 h1
      refine zR_aload_n d_BitStream_give_34 rfl rfl ?_
      refine zR_getR (j := 0) d_BitStream_give_35 sh_3 cl_BitStream rfl (by decide) g_2 ?_
      refine zR_iload d_BitStream_give_38 rfl ?_
      refine zR_iload_n d_BitStream_give_40 rfl rfl ?_
      refine zR_iload_n d_BitStream_give_41 rfl rfl ?_
      refine zR_ishr d_BitStream_give_42 rfl ?_
      refine zR_iconst (v := 1) d_BitStream_give_43 (by decide) ?_
      refine zR_iand d_BitStream_give_44 ?_
      refine zR_iconst (v := 1) d_BitStream_give_45 (by decide) ?_
      refine zR_icmp_ne (tgt := 62) d_BitStream_give_46 (by decide) (fun h1 => ?_) (fun h1 => ?_)
      · replace h := h.1 h1
        refine zR_aload_n d_BitStream_give_62 rfl rfl ?_
        refine zR_getR (j := 0) d_BitStream_give_63 sh_3 cl_BitStream rfl (by decide) g_2 ?_
        refine zR_iload d_BitStream_give_66 rfl ?_
        refine zR_iaload d_BitStream_give_68 sh_4 h.1 rfl ?_
        replace h := h.2
        refine zR_iload d_BitStream_give_69 rfl ?_
        refine zR_iconst (v := (-1)) d_BitStream_give_71 (by decide) ?_
        refine zR_ixor d_BitStream_give_72 ?_
        refine zR_iand d_BitStream_give_73 ?_
        refine zR_iastore d_BitStream_give_74 sh_4 h.1 rfl ?_
        replace h := h.2
        refine zR_aload_n d_BitStream_give_75 rfl rfl ?_
        refine zR_dup d_BitStream_give_76 ?_
        refine zR_getI (j := 2) d_BitStream_give_77 sh_3 cl_BitStream rfl (by decide) g_3 ?_
        refine zR_iconst (v := 1) d_BitStream_give_80 (by decide) ?_
        refine zR_iadd d_BitStream_give_81 ?_
        refine zR_put (j := 2) (ty := .int) d_BitStream_give_82 sh_3 cl_BitStream rfl (by decide) rfl (by decide +kernel) g_3 (zint _) ?_
        refine zR_iinc (v := 1) d_BitStream_give_85 rfl (by decide) (by decide) ?_
        refine zR_goto (tgt := 2) d_BitStream_give_88 (by decide) ?_
        refine zR_drop 4 ?_
        refine zR_drop 5 ?_
        exact h
      · replace h := h.2 h1
        refine zR_aload_n d_BitStream_give_49 rfl rfl ?_
        refine zR_getR (j := 0) d_BitStream_give_50 sh_3 cl_BitStream rfl (by decide) g_2 ?_
        refine zR_iload d_BitStream_give_53 rfl ?_
        refine zR_iaload d_BitStream_give_55 sh_4 h.1 rfl ?_
        replace h := h.2
        refine zR_iload d_BitStream_give_56 rfl ?_
        refine zR_ior d_BitStream_give_58 ?_
        refine zR_goto (tgt := 74) d_BitStream_give_59 (by decide) ?_
        refine zR_iastore d_BitStream_give_74 sh_4 h.1 rfl ?_
        replace h := h.2
        refine zR_aload_n d_BitStream_give_75 rfl rfl ?_
        refine zR_dup d_BitStream_give_76 ?_
        refine zR_getI (j := 2) d_BitStream_give_77 sh_3 cl_BitStream rfl (by decide) g_3 ?_
        refine zR_iconst (v := 1) d_BitStream_give_80 (by decide) ?_
        refine zR_iadd d_BitStream_give_81 ?_
        refine zR_put (j := 2) (ty := .int) d_BitStream_give_82 sh_3 cl_BitStream rfl (by decide) rfl (by decide +kernel) g_3 (zint _) ?_
        refine zR_iinc (v := 1) d_BitStream_give_85 rfl (by decide) (by decide) ?_
        refine zR_goto (tgt := 2) d_BitStream_give_88 (by decide) ?_
        refine zR_drop 4 ?_
        refine zR_drop 5 ?_
        exact h
theorem w_BitStream_giveZerosToByteEnd_0 {κ : zK} {d : Nat} {mem : zM} {Q : Option zV → zM → Prop}
    (h : zR κ d Y_BitStream_give 0 [some (.inr 3), some (.inl 0), some (.inl ((-(mem 3 2)) &&& 7)), none, none, none] [] mem (fun r m1 => r = none ∧ Q none m1)) : zR κ (d + 1) Y_BitStream_giveZerosToByteEnd 0 [some (.inr 3)] [] mem Q := by
  refine zR_aload_n d_BitStream_giveZerosToByteEnd_0 rfl rfl ?_
  refine zR_iconst (v := 0) d_BitStream_giveZerosToByteEnd_1 (by decide) ?_
  refine zR_aload_n d_BitStream_giveZerosToByteEnd_2 rfl rfl ?_
  refine zR_getI (j := 2) d_BitStream_giveZerosToByteEnd_3 sh_3 cl_BitStream rfl (by decide) g_3 ?_
  refine zR_ineg d_BitStream_giveZerosToByteEnd_6 ?_
  refine zR_bipush (v := 7) d_BitStream_giveZerosToByteEnd_7 (by decide) ?_
  refine zR_iand d_BitStream_giveZerosToByteEnd_9 ?_
  refine zR_callV (Y' := Y_BitStream_give) (n := 2) (A := [.inl 0, .inl ((-(mem 3 2)) &&& 7)]) (b := 3) (S := []) v_BitStream_give g_7 sh_3 cl_BitStream rfl d_BitStream_giveZerosToByteEnd_10 rfl (Nat.le_of_ble_eq_true rfl) rfl (zR_cons ?_ h)
  rintro r_ m1 ⟨rfl, h⟩
  show zR κ (d + 1) Y_BitStream_giveZerosToByteEnd 13 [some (.inr 3)] [] m1 Q
  exact zR_return rfl d_BitStream_giveZerosToByteEnd_13 h
theorem w_BitStream_finishWriting_0 {κ : zK} {d : Nat} {mem : zM} {Q : Option zV → zM → Prop}
    (h : zR κ d Y_BitStream_giveZerosToByteEnd 0 [some (.inr 3)] [] mem (fun r m1 => r = none ∧ Q none (zms m1 3 1 (if 200 < ((m1 3 2) >>> (3 : Int32)) then 200 else ((m1 3 2) >>> (3 : Int32)))))) : zR κ (d + 1) Y_BitStream_finishWriting 0 [some (.inr 3)] [] mem Q := by
  refine zR_aload_n d_BitStream_finishWriting_0 rfl rfl ?_
  refine zR_callV (Y' := Y_BitStream_giveZerosToByteEnd) (n := 0) (A := []) (b := 3) (S := []) v_BitStream_giveZerosToByteEnd g_8 sh_3 cl_BitStream rfl d_BitStream_finishWriting_1 rfl (Nat.le_of_ble_eq_true rfl) rfl (zR_cons ?_ h)
  rintro r_ m1 ⟨rfl, h⟩
  show zR κ (d + 1) Y_BitStream_finishWriting 4 [some (.inr 3)] [] m1 Q
  refine zR_aload_n d_BitStream_finishWriting_4 rfl rfl ?_
  refine zR_aload_n d_BitStream_finishWriting_5 rfl rfl ?_
  refine zR_getI (j := 2) d_BitStream_finishWriting_6 sh_3 cl_BitStream rfl (by decide) g_3 ?_
  refine zR_iconst (v := 3) d_BitStream_finishWriting_9 (by decide) ?_
  refine zR_ishr (z := 3) d_BitStream_finishWriting_10 (by decide) ?_
  refine zR_sipush (v := 200) d_BitStream_finishWriting_11 (by decide) ?_
  refine zR_min d_BitStream_finishWriting_14 g_9 (Nat.le_of_ble_eq_true rfl) ?_
  refine zR_put (j := 1) (ty := .int) d_BitStream_finishWriting_17 sh_3 cl_BitStream rfl (by decide) rfl (by decide +kernel) g_1 (zint _) ?_
  exact zR_return rfl d_BitStream_finishWriting_20 h
