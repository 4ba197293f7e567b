/-! pieces of RingPackerModel -/
theorem w_Mo_isByte_0 {κ : zK} {d : Nat} {mem : zM} {Q : Option zV → zM → Prop} {x0 : Int32}
    (h : ((x0 < 0 → Q (some (.inl 0)) mem) ∧ (¬ x0 < 0 → ((255 < x0 → Q (some (.inl 0)) mem) ∧ (¬ 255 < x0 → Q (some (.inl 1)) mem))))) : zR κ d Y_Mo_isByte 0 [some (.inl x0)] [] mem Q := by
  refine zR_iload_n d_Mo_isByte_0 rfl rfl ?_
  refine zR_if_lt (tgt := 15) d_Mo_isByte_1 (by decide) (fun h1 => ?_) (fun h1 => ?_)
  · replace h := h.1 h1
    refine zR_iconst (v := 0) d_Mo_isByte_15 (by decide) ?_
    exact zR_zreturn rfl d_Mo_isByte_16 (Or.inl rfl) h
  · replace h := h.2 h1
    refine zR_iload_n d_Mo_isByte_4 rfl rfl ?_
    refine zR_sipush (v := 255) d_Mo_isByte_5 (by decide) ?_
    refine zR_icmp_gt (tgt := 15) d_Mo_isByte_8 (by decide) (fun h1 => ?_) (fun h1 => ?_)
    · replace h := h.1 h1
      refine zR_iconst (v := 0) d_Mo_isByte_15 (by decide) ?_
      exact zR_zreturn rfl d_Mo_isByte_16 (Or.inl rfl) h
    · replace h := h.2 h1
      refine zR_iconst (v := 1) d_Mo_isByte_11 (by decide) ?_
      refine zR_goto (tgt := 16) d_Mo_isByte_12 (by decide) ?_
      exact zR_zreturn rfl d_Mo_isByte_16 (Or.inr rfl) h
theorem w_Mo_put_0 {κ : zK} {d : Nat} {mem : zM} {Q : Option zV → zM → Prop} {x1 : Int32}
    (h : zR κ d Y_Mo_isByte 0 [some (.inl x1)] [] mem (fun r m1 => ∃ y2 : Int32, r = some (.inl y2) ∧ ((y2 = 0 → Q (some (.inl 0)) m1) ∧ (¬ y2 = 0 → ((¬ (m1 68 0) = 96 → vp_in (m1 68 0) 96 ∧ Q (some (.inl 1)) (zms (zms m1 69 (m1 68 0).toNatClampNeg x1) 68 0 ((m1 68 0) + 1))) ∧ ((m1 68 0) = 96 → Q (some (.inl 0)) m1)))))) : zR κ (d + 1) Y_Mo_put 0 [some (.inr 68), some (.inl x1)] [] mem Q := by
  refine zR_iload_n d_Mo_put_0 rfl rfl ?_
  refine zR_callS (Y' := Y_Mo_isByte) (n := 1) (A := [.inl x1]) (S := []) v_Mo_isByte g_220 d_Mo_put_1 rfl (Nat.le_of_ble_eq_true rfl) rfl (zR_cons ?_ h)
  rintro r_ m1 ⟨y2, rfl, h⟩
  show zR κ (d + 1) Y_Mo_put 4 [some (.inr 68), some (.inl x1)] [.inl y2] m1 Q
  refine zR_if_eq (tgt := 16) d_Mo_put_4 (by decide) (fun h1 => ?_) (fun h1 => ?_)
  · replace h := h.1 h1
    refine zR_iconst (v := 0) d_Mo_put_16 (by decide) ?_
    exact zR_zreturn rfl d_Mo_put_17 (Or.inl rfl) h
  · replace h := h.2 h1
    refine zR_aload_n d_Mo_put_7 rfl rfl ?_
    refine zR_getI (j := 0) d_Mo_put_8 sh_68 cl_Mo rfl (by decide) g_221 ?_
    refine zR_bipush (v := 96) d_Mo_put_11 (by decide) ?_
    refine zR_icmp_ne (tgt := 18) d_Mo_put_13 (by decide) (fun h1 => ?_) (fun h1 => ?_)
    · replace h := h.1 h1
      refine zR_aload_n d_Mo_put_18 rfl rfl ?_
      refine zR_getR (j := 1) d_Mo_put_19 sh_68 cl_Mo rfl (by decide) g_222 ?_
      refine zR_aload_n d_Mo_put_22 rfl rfl ?_
      refine zR_getI (j := 0) d_Mo_put_23 sh_68 cl_Mo rfl (by decide) g_221 ?_
      refine zR_iload_n d_Mo_put_26 rfl rfl ?_
      refine zR_iastore d_Mo_put_27 sh_69 h.1 rfl ?_
      replace h := h.2
      refine zR_aload_n d_Mo_put_28 rfl rfl ?_
      refine zR_dup d_Mo_put_29 ?_
      refine zR_getI (j := 0) d_Mo_put_30 sh_68 cl_Mo rfl (by decide) g_221 ?_
      refine zR_iconst (v := 1) d_Mo_put_33 (by decide) ?_
      refine zR_iadd d_Mo_put_34 ?_
      refine zR_put (j := 0) (ty := .int) d_Mo_put_35 sh_68 cl_Mo rfl (by decide) rfl (by decide +kernel) g_221 (zint _) ?_
      refine zR_iconst (v := 1) d_Mo_put_38 (by decide) ?_
      exact zR_zreturn rfl d_Mo_put_39 (Or.inr rfl) h
    · replace h := h.2 h1
      refine zR_iconst (v := 0) d_Mo_put_16 (by decide) ?_
      exact zR_zreturn rfl d_Mo_put_17 (Or.inl rfl) h
theorem w_Mo_clear_0 {κ : zK} {d : Nat} {mem : zM} {Q : Option zV → zM → Prop}
    (h : Q none (zms mem 68 0 0)) : zR κ d Y_Mo_clear 0 [some (.inr 68)] [] mem Q := by
  refine zR_aload_n d_Mo_clear_0 rfl rfl ?_
  refine zR_iconst (v := 0) d_Mo_clear_1 (by decide) ?_
  refine zR_put (j := 0) (ty := .int) d_Mo_clear_2 sh_68 cl_Mo rfl (by decide) rfl (by decide +kernel) g_221 (zint _) ?_
  exact zR_return rfl d_Mo_clear_5 h
theorem w_Mo_length_0 {κ : zK} {d : Nat} {mem : zM} {Q : Option zV → zM → Prop}
    (h : Q (some (.inl (mem 68 0))) mem) : zR κ d Y_Mo_length 0 [some (.inr 68)] [] mem Q := by
  refine zR_aload_n d_Mo_length_0 rfl rfl ?_
  refine zR_getI (j := 0) d_Mo_length_1 sh_68 cl_Mo rfl (by decide) g_221 ?_
  exact zR_ireturn rfl d_Mo_length_4 h
theorem w_Mo_at_0 {κ : zK} {d : Nat} {mem : zM} {Q : Option zV → zM → Prop} {x1 : Int32}
    (h : ((x1 < 0 → Q (some (.inl (-1))) mem) ∧ (¬ x1 < 0 → (((mem 68 0) ≤ x1 → Q (some (.inl (-1))) mem) ∧ (¬ (mem 68 0) ≤ x1 → vp_in x1 96 ∧ Q (some (.inl (mem 69 x1.toNatClampNeg))) mem))))) : zR κ d Y_Mo_at 0 [some (.inr 68), some (.inl x1)] [] mem Q := by
  refine zR_iload_n d_Mo_at_0 rfl rfl ?_
  refine zR_if_lt (tgt := 21) d_Mo_at_1 (by decide) (fun h1 => ?_) (fun h1 => ?_)
  · replace h := h.1 h1
    refine zR_iconst (v := (-1)) d_Mo_at_21 (by decide) ?_
    exact zR_ireturn rfl d_Mo_at_22 h
  · replace h := h.2 h1
    refine zR_iload_n d_Mo_at_4 rfl rfl ?_
    refine zR_aload_n d_Mo_at_5 rfl rfl ?_
    refine zR_getI (j := 0) d_Mo_at_6 sh_68 cl_Mo rfl (by decide) g_221 ?_
    refine zR_icmp_ge (tgt := 21) d_Mo_at_9 (by decide) (fun h1 => ?_) (fun h1 => ?_)
    · replace h := h.1 h1
      refine zR_iconst (v := (-1)) d_Mo_at_21 (by decide) ?_
      exact zR_ireturn rfl d_Mo_at_22 h
    · replace h := h.2 h1
      refine zR_aload_n d_Mo_at_12 rfl rfl ?_
      refine zR_getR (j := 1) d_Mo_at_13 sh_68 cl_Mo rfl (by decide) g_222 ?_
      refine zR_iload_n d_Mo_at_16 rfl rfl ?_
      refine zR_iaload d_Mo_at_17 sh_69 h.1 rfl ?_
      replace h := h.2
      refine zR_goto (tgt := 22) d_Mo_at_18 (by decide) ?_
      exact zR_ireturn rfl d_Mo_at_22 h
theorem w_Mo_size_0 {κ : zK} {d : Nat} {mem : zM} {Q : Option zV → zM → Prop}
    (h : Q (some (.inl (mem 68 2))) mem) : zR κ d Y_Mo_size 0 [some (.inr 68)] [] mem Q := by
  refine zR_aload_n d_Mo_size_0 rfl rfl ?_
  refine zR_getI (j := 2) d_Mo_size_1 sh_68 cl_Mo rfl (by decide) g_223 ?_
  exact zR_ireturn rfl d_Mo_size_4 h
theorem w_Mo_byteAt_0 {κ : zK} {d : Nat} {mem : zM} {Q : Option zV → zM → Prop} {x1 : Int32}
    (h : ((x1 < 0 → Q (some (.inl (-1))) mem) ∧ (¬ x1 < 0 → (((mem 68 2) ≤ x1 → Q (some (.inl (-1))) mem) ∧ (¬ (mem 68 2) ≤ x1 → vp_in x1 200 ∧ Q (some (.inl (mem 70 x1.toNatClampNeg))) mem))))) : zR κ d Y_Mo_byteAt 0 [some (.inr 68), some (.inl x1)] [] mem Q := by
  refine zR_iload_n d_Mo_byteAt_0 rfl rfl ?_
  refine zR_if_lt (tgt := 21) d_Mo_byteAt_1 (by decide) (fun h1 => ?_) (fun h1 => ?_)
  · replace h := h.1 h1
    refine zR_iconst (v := (-1)) d_Mo_byteAt_21 (by decide) ?_
    exact zR_ireturn rfl d_Mo_byteAt_22 h
  · replace h := h.2 h1
    refine zR_iload_n d_Mo_byteAt_4 rfl rfl ?_
    refine zR_aload_n d_Mo_byteAt_5 rfl rfl ?_
    refine zR_getI (j := 2) d_Mo_byteAt_6 sh_68 cl_Mo rfl (by decide) g_223 ?_
    refine zR_icmp_ge (tgt := 21) d_Mo_byteAt_9 (by decide) (fun h1 => ?_) (fun h1 => ?_)
    · replace h := h.1 h1
      refine zR_iconst (v := (-1)) d_Mo_byteAt_21 (by decide) ?_
      exact zR_ireturn rfl d_Mo_byteAt_22 h
    · replace h := h.2 h1
      refine zR_aload_n d_Mo_byteAt_12 rfl rfl ?_
      refine zR_getR (j := 3) d_Mo_byteAt_13 sh_68 cl_Mo rfl (by decide) g_224 ?_
      refine zR_iload_n d_Mo_byteAt_16 rfl rfl ?_
      refine zR_iaload d_Mo_byteAt_17 sh_70 h.1 rfl ?_
      replace h := h.2
      refine zR_goto (tgt := 22) d_Mo_byteAt_18 (by decide) ?_
      exact zR_ireturn rfl d_Mo_byteAt_22 h
theorem w_Mo_poke_0 {κ : zK} {d : Nat} {mem : zM} {Q : Option zV → zM → Prop} {x1 x2 : Int32}
    (h : ((x1 < 0 → Q (some (.inl 0)) mem) ∧ (¬ x1 < 0 → (((mem 68 2) ≤ x1 → Q (some (.inl 0)) mem) ∧ (¬ (mem 68 2) ≤ x1 → zR κ d Y_Mo_isByte 0 [some (.inl x2)] [] mem (fun r m1 => ∃ y2 : Int32, r = some (.inl y2) ∧ ((¬ y2 = 0 → vp_in x1 200 ∧ Q (some (.inl 1)) (zms m1 70 x1.toNatClampNeg x2)) ∧ (y2 = 0 → Q (some (.inl 0)) m1)))))))) : zR κ (d + 1) Y_Mo_poke 0 [some (.inr 68), some (.inl x1), some (.inl x2)] [] mem Q := by
  refine zR_iload_n d_Mo_poke_0 rfl rfl ?_
  refine zR_if_lt (tgt := 19) d_Mo_poke_1 (by decide) (fun h1 => ?_) (fun h1 => ?_)
  · replace h := h.1 h1
    refine zR_iconst (v := 0) d_Mo_poke_19 (by decide) ?_
    exact zR_zreturn rfl d_Mo_poke_20 (Or.inl rfl) h
  · replace h := h.2 h1
    refine zR_iload_n d_Mo_poke_4 rfl rfl ?_
    refine zR_aload_n d_Mo_poke_5 rfl rfl ?_
    refine zR_getI (j := 2) d_Mo_poke_6 sh_68 cl_Mo rfl (by decide) g_223 ?_
    refine zR_icmp_ge (tgt := 19) d_Mo_poke_9 (by decide) (fun h1 => ?_) (fun h1 => ?_)
    · replace h := h.1 h1
      refine zR_iconst (v := 0) d_Mo_poke_19 (by decide) ?_
      exact zR_zreturn rfl d_Mo_poke_20 (Or.inl rfl) h
    · replace h := h.2 h1
      refine zR_iload_n d_Mo_poke_12 rfl rfl ?_
      refine zR_callS (Y' := Y_Mo_isByte) (n := 1) (A := [.inl x2]) (S := []) v_Mo_isByte g_220 d_Mo_poke_13 rfl (Nat.le_of_ble_eq_true rfl) rfl (zR_cons ?_ h)
      rintro r_ m1 ⟨y2, rfl, h⟩
      show zR κ (d + 1) Y_Mo_poke 16 [some (.inr 68), some (.inl x1), some (.inl x2)] [.inl y2] m1 Q
      refine zR_if_ne (tgt := 21) d_Mo_poke_16 (by decide) (fun h1 => ?_) (fun h1 => ?_)
      · replace h := h.1 h1
        refine zR_aload_n d_Mo_poke_21 rfl rfl ?_
        refine zR_getR (j := 3) d_Mo_poke_22 sh_68 cl_Mo rfl (by decide) g_224 ?_
        refine zR_iload_n d_Mo_poke_25 rfl rfl ?_
        refine zR_iload_n d_Mo_poke_26 rfl rfl ?_
        refine zR_iastore d_Mo_poke_27 sh_70 h.1 rfl ?_
        replace h := h.2
        refine zR_iconst (v := 1) d_Mo_poke_28 (by decide) ?_
        exact zR_zreturn rfl d_Mo_poke_29 (Or.inr rfl) h
      · replace h := h.2 h1
        refine zR_iconst (v := 0) d_Mo_poke_19 (by decide) ?_
        exact zR_zreturn rfl d_Mo_poke_20 (Or.inl rfl) h
theorem w_Mo_append_0 {κ : zK} {d : Nat} {mem : zM} {Q : Option zV → zM → Prop} {x1 : Int32}
    (h : zR κ d Y_Mo_isByte 0 [some (.inl x1)] [] mem (fun r m1 => ∃ y2 : Int32, r = some (.inl y2) ∧ ((y2 = 0 → Q (some (.inl 0)) m1) ∧ (¬ y2 = 0 → ((¬ (m1 68 2) = 200 → vp_in (m1 68 2) 200 ∧ Q (some (.inl 1)) (zms (zms m1 70 (m1 68 2).toNatClampNeg x1) 68 2 ((m1 68 2) + 1))) ∧ ((m1 68 2) = 200 → Q (some (.inl 0)) m1)))))) : zR κ (d + 1) Y_Mo_append 0 [some (.inr 68), some (.inl x1)] [] mem Q := by
  refine zR_iload_n d_Mo_append_0 rfl rfl ?_
  refine zR_callS (Y' := Y_Mo_isByte) (n := 1) (A := [.inl x1]) (S := []) v_Mo_isByte g_220 d_Mo_append_1 rfl (Nat.le_of_ble_eq_true rfl) rfl (zR_cons ?_ h)
  rintro r_ m1 ⟨y2, rfl, h⟩
  show zR κ (d + 1) Y_Mo_append 4 [some (.inr 68), some (.inl x1)] [.inl y2] m1 Q
  refine zR_if_eq (tgt := 17) d_Mo_append_4 (by decide) (fun h1 => ?_) (fun h1 => ?_)
  · replace h := h.1 h1
    refine zR_iconst (v := 0) d_Mo_append_17 (by decide) ?_
    exact zR_zreturn rfl d_Mo_append_18 (Or.inl rfl) h
  · replace h := h.2 h1
    refine zR_aload_n d_Mo_append_7 rfl rfl ?_
    refine zR_getI (j := 2) d_Mo_append_8 sh_68 cl_Mo rfl (by decide) g_223 ?_
    refine zR_sipush (v := 200) d_Mo_append_11 (by decide) ?_
    refine zR_icmp_ne (tgt := 19) d_Mo_append_14 (by decide) (fun h1 => ?_) (fun h1 => ?_)
    · replace h := h.1 h1
      refine zR_aload_n d_Mo_append_19 rfl rfl ?_
      refine zR_getR (j := 3) d_Mo_append_20 sh_68 cl_Mo rfl (by decide) g_224 ?_
      refine zR_aload_n d_Mo_append_23 rfl rfl ?_
      refine zR_getI (j := 2) d_Mo_append_24 sh_68 cl_Mo rfl (by decide) g_223 ?_
      refine zR_iload_n d_Mo_append_27 rfl rfl ?_
      refine zR_iastore d_Mo_append_28 sh_70 h.1 rfl ?_
      replace h := h.2
      refine zR_aload_n d_Mo_append_29 rfl rfl ?_
      refine zR_dup d_Mo_append_30 ?_
      refine zR_getI (j := 2) d_Mo_append_31 sh_68 cl_Mo rfl (by decide) g_223 ?_
      refine zR_iconst (v := 1) d_Mo_append_34 (by decide) ?_
      refine zR_iadd d_Mo_append_35 ?_
      refine zR_put (j := 2) (ty := .int) d_Mo_append_36 sh_68 cl_Mo rfl (by decide) rfl (by decide +kernel) g_223 (zint _) ?_
      refine zR_iconst (v := 1) d_Mo_append_39 (by decide) ?_
      exact zR_zreturn rfl d_Mo_append_40 (Or.inr rfl) h
    · replace h := h.2 h1
      refine zR_iconst (v := 0) d_Mo_append_17 (by decide) ?_
      exact zR_zreturn rfl d_Mo_append_18 (Or.inl rfl) h
theorem w_Mo_trim_0 {κ : zK} {d : Nat} {mem : zM} {Q : Option zV → zM → Prop} {x1 : Int32}
    (h : ((x1 < 0 → Q (some (.inl 0)) mem) ∧ (¬ x1 < 0 → ((x1 ≤ (mem 68 2) → Q (some (.inl 1)) (zms mem 68 2 x1)) ∧ (¬ x1 ≤ (mem 68 2) → Q (some (.inl 0)) mem))))) : zR κ d Y_Mo_trim 0 [some (.inr 68), some (.inl x1)] [] mem Q := by
  refine zR_iload_n d_Mo_trim_0 rfl rfl ?_
  refine zR_if_lt (tgt := 12) d_Mo_trim_1 (by decide) (fun h1 => ?_) (fun h1 => ?_)
  · replace h := h.1 h1
    refine zR_iconst (v := 0) d_Mo_trim_12 (by decide) ?_
    exact zR_zreturn rfl d_Mo_trim_13 (Or.inl rfl) h
  · replace h := h.2 h1
    refine zR_iload_n d_Mo_trim_4 rfl rfl ?_
    refine zR_aload_n d_Mo_trim_5 rfl rfl ?_
    refine zR_getI (j := 2) d_Mo_trim_6 sh_68 cl_Mo rfl (by decide) g_223 ?_
    refine zR_icmp_le (tgt := 14) d_Mo_trim_9 (by decide) (fun h1 => ?_) (fun h1 => ?_)
    · replace h := h.1 h1
      refine zR_aload_n d_Mo_trim_14 rfl rfl ?_
      refine zR_iload_n d_Mo_trim_15 rfl rfl ?_
      refine zR_put (j := 2) (ty := .int) d_Mo_trim_16 sh_68 cl_Mo rfl (by decide) rfl (by decide +kernel) g_223 (zint _) ?_
      refine zR_iconst (v := 1) d_Mo_trim_19 (by decide) ?_
      exact zR_zreturn rfl d_Mo_trim_20 (Or.inr rfl) h
    · replace h := h.2 h1
      refine zR_iconst (v := 0) d_Mo_trim_12 (by decide) ?_
      exact zR_zreturn rfl d_Mo_trim_13 (Or.inl rfl) h
theorem w_Mo_coded_0 {κ : zK} {d : Nat} {mem : zM} {Q : Option zV → zM → Prop}
    (h : Q (some (.inl (mem 68 4))) mem) : zR κ d Y_Mo_coded 0 [some (.inr 68)] [] mem Q := by
  refine zR_aload_n d_Mo_coded_0 rfl rfl ?_
  refine zR_getI (j := 4) d_Mo_coded_1 sh_68 cl_Mo rfl (by decide) g_225 ?_
  exact zR_ireturn rfl d_Mo_coded_4 h
theorem w_Mo_copies_0 {κ : zK} {d : Nat} {mem : zM} {Q : Option zV → zM → Prop}
    (h : Q (some (.inl (mem 68 5))) mem) : zR κ d Y_Mo_copies 0 [some (.inr 68)] [] mem Q := by
  refine zR_aload_n d_Mo_copies_0 rfl rfl ?_
  refine zR_getI (j := 5) d_Mo_copies_1 sh_68 cl_Mo rfl (by decide) g_226 ?_
  exact zR_ireturn rfl d_Mo_copies_4 h
theorem w_Mo_words_0 {κ : zK} {d : Nat} {mem : zM} {Q : Option zV → zM → Prop}
    (h : Q (some (.inl (mem 68 6))) mem) : zR κ d Y_Mo_words 0 [some (.inr 68)] [] mem Q := by
  refine zR_aload_n d_Mo_words_0 rfl rfl ?_
  refine zR_getI (j := 6) d_Mo_words_1 sh_68 cl_Mo rfl (by decide) g_227 ?_
  exact zR_ireturn rfl d_Mo_words_4 h
theorem w_Mo_symbols_0 {κ : zK} {d : Nat} {mem : zM} {Q : Option zV → zM → Prop}
    (h : Q (some (.inl (mem 68 7))) mem) : zR κ d Y_Mo_symbols 0 [some (.inr 68)] [] mem Q := by
  refine zR_aload_n d_Mo_symbols_0 rfl rfl ?_
  refine zR_getI (j := 7) d_Mo_symbols_1 sh_68 cl_Mo rfl (by decide) g_228 ?_
  exact zR_ireturn rfl d_Mo_symbols_4 h
theorem w_Mo_bytesOf_0 {κ : zK} {d : Nat} {mem : zM} {Q : Option zV → zM → Prop} {x0 x1 : Int32}
    (h : ((¬ (x1 / 4) = 2 → ((¬ (x1 / 4) = 3 → Q (some (.inl x0)) mem) ∧ ((x1 / 4) = 3 → Q (some (.inl (x0 - 1))) mem))) ∧ ((x1 / 4) = 2 → Q (some (.inl (x0 + 1))) mem))) : zR κ d Y_Mo_bytesOf 0 [some (.inl x0), some (.inl x1)] [] mem Q := by
  refine zR_iload_n d_Mo_bytesOf_0 rfl rfl ?_
  refine zR_iconst (v := 4) d_Mo_bytesOf_1 (by decide) ?_
  refine zR_idiv d_Mo_bytesOf_2 (by decide) ?_
  refine zR_iconst (v := 2) d_Mo_bytesOf_3 (by decide) ?_
  refine zR_icmp_ne (tgt := 13) d_Mo_bytesOf_4 (by decide) (fun h1 => ?_) (fun h1 => ?_)
  · replace h := h.1 h1
    refine zR_iload_n d_Mo_bytesOf_13 rfl rfl ?_
    refine zR_iconst (v := 4) d_Mo_bytesOf_14 (by decide) ?_
    refine zR_idiv d_Mo_bytesOf_15 (by decide) ?_
    refine zR_iconst (v := 3) d_Mo_bytesOf_16 (by decide) ?_
    refine zR_icmp_ne (tgt := 26) d_Mo_bytesOf_17 (by decide) (fun h1 => ?_) (fun h1 => ?_)
    · replace h := h.1 h1
      refine zR_iload_n d_Mo_bytesOf_26 rfl rfl ?_
      exact zR_ireturn rfl d_Mo_bytesOf_27 h
    · replace h := h.2 h1
      refine zR_iload_n d_Mo_bytesOf_20 rfl rfl ?_
      refine zR_iconst (v := 1) d_Mo_bytesOf_21 (by decide) ?_
      refine zR_isub d_Mo_bytesOf_22 ?_
      refine zR_goto (tgt := 27) d_Mo_bytesOf_23 (by decide) ?_
      exact zR_ireturn rfl d_Mo_bytesOf_27 h
  · replace h := h.2 h1
    refine zR_iload_n d_Mo_bytesOf_7 rfl rfl ?_
    refine zR_iconst (v := 1) d_Mo_bytesOf_8 (by decide) ?_
    refine zR_iadd d_Mo_bytesOf_9 ?_
    refine zR_goto (tgt := 27) d_Mo_bytesOf_10 (by decide) ?_
    exact zR_ireturn rfl d_Mo_bytesOf_27 h
theorem w_Mo_byteOf_0 {κ : zK} {d : Nat} {mem : zM} {Q : Option zV → zM → Prop} {x0 x1 x2 : Int32}
    (h : ((¬ (x1 / 4) = 2 → zR κ (d + 1) Y_Mo_byteOf 22 [some (.inl x0), some (.inl x1), some (.inl x2), some (.inl (x1 / 4)), some (.inl (x1 - x1 / 4 * 4)), none] [] mem Q) ∧ ((x1 / 4) = 2 → ((¬ x2 = x0 → zR κ (d + 1) Y_Mo_byteOf 22 [some (.inl x0), some (.inl x1), some (.inl x2), some (.inl (x1 / 4)), some (.inl (x1 - x1 / 4 * 4)), none] [] mem Q) ∧ (x2 = x0 → Q (some (.inl 32)) mem))))) : zR κ (d + 1) Y_Mo_byteOf 0 [some (.inl x0), some (.inl x1), some (.inl x2), none, none, none] [] mem Q := by
  refine zR_iload_n d_Mo_byteOf_0 rfl rfl ?_
  refine zR_iconst (v := 4) d_Mo_byteOf_1 (by decide) ?_
  refine zR_idiv d_Mo_byteOf_2 (by decide) ?_
  refine zR_istore_n d_Mo_byteOf_3 rfl (by decide) ?_
  refine zR_iload_n d_Mo_byteOf_4 rfl rfl ?_
  refine zR_iconst (v := 4) d_Mo_byteOf_5 (by decide) ?_
  refine zR_irem d_Mo_byteOf_6 (by decide) ?_
  refine zR_istore d_Mo_byteOf_7 (by decide) ?_
  refine zR_iload_n d_Mo_byteOf_9 rfl rfl ?_
  refine zR_iconst (v := 2) d_Mo_byteOf_10 (by decide) ?_
  refine zR_icmp_ne (tgt := 22) d_Mo_byteOf_11 (by decide) (fun h1 => ?_) (fun h1 => ?_)
  · replace h := h.1 h1
    exact h
  · replace h := h.2 h1
    refine zR_iload_n d_Mo_byteOf_14 rfl rfl ?_
    refine zR_iload_n d_Mo_byteOf_15 rfl rfl ?_
    refine zR_icmp_ne (tgt := 22) d_Mo_byteOf_16 (by decide) (fun h1 => ?_) (fun h1 => ?_)
    · replace h := h.1 h1
      exact h
    · replace h := h.2 h1
      refine zR_bipush (v := 32) d_Mo_byteOf_19 (by decide) ?_
      exact zR_ireturn rfl d_Mo_byteOf_21 h
theorem w_Mo_byteOf_22 {κ : zK} {d : Nat} {mem : zM} {Q : Option zV → zM → Prop} {x0 x1 x2 x3 x4 : Int32}
    (h : ((¬ x3 = 3 → zR κ (d + 1) Y_Mo_byteOf 37 [some (.inl x0), some (.inl x1), some (.inl x2), some (.inl x3), some (.inl x4), none] [.inl x2, .inl x4, .inl x0] mem Q) ∧ (x3 = 3 → zR κ (d + 1) Y_Mo_byteOf 37 [some (.inl x0), some (.inl x1), some (.inl x2), some (.inl x3), some (.inl x4), none] [.inl (x2 + 1), .inl x4, .inl x0] mem Q))) : zR κ (d + 1) Y_Mo_byteOf 22 [some (.inl x0), some (.inl x1), some (.inl x2), some (.inl x3), some (.inl x4), none] [] mem Q := by
  refine zR_iload_n d_Mo_byteOf_22 rfl rfl ?_
  refine zR_iload d_Mo_byteOf_23 rfl ?_
  refine zR_iload_n d_Mo_byteOf_25 rfl rfl ?_
  refine zR_iconst (v := 3) d_Mo_byteOf_26 (by decide) ?_
  refine zR_icmp_ne (tgt := 36) d_Mo_byteOf_27 (by decide) (fun h1 => ?_) (fun h1 => ?_)
  · replace h := h.1 h1
    refine zR_iload_n d_Mo_byteOf_36 rfl rfl ?_
    exact h
  · replace h := h.2 h1
    refine zR_iload_n d_Mo_byteOf_30 rfl rfl ?_
    refine zR_iconst (v := 1) d_Mo_byteOf_31 (by decide) ?_
    refine zR_iadd d_Mo_byteOf_32 ?_
    refine zR_goto (tgt := 37) d_Mo_byteOf_33 (by decide) ?_
    exact h
theorem w_Mo_byteOf_37 {κ : zK} {d : Nat} {mem : zM} {Q : Option zV → zM → Prop} {x0 x1 x2 x3 x4 s0 s1 s2 : Int32}
    (h : zR κ d Y_Mo_letter 0 [some (.inl s0), some (.inl s1), some (.inl s2), none, none] [] mem (fun r m1 => ∃ y2 : Int32, r = some (.inl y2) ∧ ((¬ x3 = 1 → Q (some (.inl y2)) m1) ∧ (x3 = 1 → ((¬ x2 = 0 → Q (some (.inl y2)) m1) ∧ (x2 = 0 → Q (some (.inl (y2 - 32))) m1)))))) : zR κ (d + 1) Y_Mo_byteOf 37 [some (.inl x0), some (.inl x1), some (.inl x2), some (.inl x3), some (.inl x4), none] [.inl s2, .inl s1, .inl s0] mem Q := by
  refine zR_callS (Y' := Y_Mo_letter) (n := 3) (A := [.inl s0, .inl s1, .inl s2]) (S := []) v_Mo_letter g_229 d_Mo_byteOf_37 rfl (Nat.le_of_ble_eq_true rfl) rfl (zR_cons ?_ h)
  rintro r_ m1 ⟨y2, rfl, h⟩
  show zR κ (d + 1) Y_Mo_byteOf 40 [some (.inl x0), some (.inl x1), some (.inl x2), some (.inl x3), some (.inl x4), none] [.inl y2] m1 Q
  refine zR_istore d_Mo_byteOf_40 (by decide) ?_
  refine zR_iload_n d_Mo_byteOf_42 rfl rfl ?_
  refine zR_iconst (v := 1) d_Mo_byteOf_43 (by decide) ?_
  refine zR_icmp_ne (tgt := 59) d_Mo_byteOf_44 (by decide) (fun h1 => ?_) (fun h1 => ?_)
  · replace h := h.1 h1
    refine zR_iload d_Mo_byteOf_59 rfl ?_
    exact zR_ireturn rfl d_Mo_byteOf_61 h
  · replace h := h.2 h1
    refine zR_iload_n d_Mo_byteOf_47 rfl rfl ?_
    refine zR_if_ne (tgt := 59) d_Mo_byteOf_48 (by decide) (fun h1 => ?_) (fun h1 => ?_)
    · replace h := h.1 h1
      refine zR_iload d_Mo_byteOf_59 rfl ?_
      exact zR_ireturn rfl d_Mo_byteOf_61 h
    · replace h := h.2 h1
      refine zR_iload d_Mo_byteOf_51 rfl ?_
      refine zR_bipush (v := 32) d_Mo_byteOf_53 (by decide) ?_
      refine zR_isub d_Mo_byteOf_55 ?_
      refine zR_goto (tgt := 61) d_Mo_byteOf_56 (by decide) ?_
      exact zR_ireturn rfl d_Mo_byteOf_61 h
theorem w_Mo_match_0 {κ : zK} {d : Nat} {mem : zM} {Q : Option zV → zM → Prop} {x1 x2 : Int32}
    (h : zR κ d Y_Mo_match 12 [some (.inr 68), some (.inl x1), some (.inl x2), some (.inl 1), none] [] (zms (zms mem 68 23 0) 68 24 0) Q) : zR κ d Y_Mo_match 0 [some (.inr 68), some (.inl x1), some (.inl x2), none, none] [] mem Q := by
  refine zR_aload_n d_Mo_match_0 rfl rfl ?_
  refine zR_iconst (v := 0) d_Mo_match_1 (by decide) ?_
  refine zR_put (j := 23) (ty := .int) d_Mo_match_2 sh_68 cl_Mo rfl (by decide) rfl (by decide +kernel) g_230 (zint _) ?_
  refine zR_aload_n d_Mo_match_5 rfl rfl ?_
  refine zR_iconst (v := 0) d_Mo_match_6 (by decide) ?_
  refine zR_put (j := 24) (ty := .int) d_Mo_match_7 sh_68 cl_Mo rfl (by decide) rfl (by decide +kernel) g_231 (zint _) ?_
  refine zR_iconst (v := 1) d_Mo_match_10 (by decide) ?_
  refine zR_istore_n d_Mo_match_11 rfl (by decide) ?_
  exact h
theorem w_Mo_match_12 {κ : zK} {d : Nat} {mem : zM} {Q : Option zV → zM → Prop} {x1 x2 x3 : Int32}
    (h : ((x1 < x3 → Q none mem) ∧ (¬ x1 < x3 → zR κ d Y_Mo_match 20 [some (.inr 68), some (.inl x1), some (.inl x2), some (.inl x3), some (.inl 0)] [] mem Q))) : zR κ d Y_Mo_match 12 [some (.inr 68), some (.inl x1), some (.inl x2), some (.inl x3), none] [] mem Q := by
  refine zR_iload_n d_Mo_match_12 rfl rfl ?_
  refine zR_iload_n d_Mo_match_13 rfl rfl ?_
  refine zR_icmp_gt (tgt := 113) d_Mo_match_14 (by decide) (fun h1 => ?_) (fun h1 => ?_)
  · replace h := h.1 h1
    exact zR_return rfl d_Mo_match_113 h
  · replace h := h.2 h1
    refine zR_iconst (v := 0) d_Mo_match_17 (by decide) ?_
    refine zR_istore d_Mo_match_18 (by decide) ?_
    exact h
theorem w_Mo_match_20 {κ : zK} {d : Nat} {mem : zM} {Q : Option zV → zM → Prop} {x1 x2 x3 x4 : Int32}
    (h : ((57 ≤ x4 → ((x4 ≤ (mem 68 23) → zR κ d Y_Mo_match 82 [some (.inr 68), some (.inl x1), some (.inl x2), some (.inl x3), some (.inl x4)] [.inl (mem 68 24), .inr 68] mem Q) ∧ (¬ x4 ≤ (mem 68 23) → zR κ d Y_Mo_match 82 [some (.inr 68), some (.inl x1), some (.inl x2), some (.inl x3), some (.inl x4)] [.inl x3, .inr 68] mem Q))) ∧ (¬ 57 ≤ x4 → ((x2 ≤ (x1 + x4) → ((x4 ≤ (mem 68 23) → zR κ d Y_Mo_match 82 [some (.inr 68), some (.inl x1), some (.inl x2), some (.inl x3), some (.inl x4)] [.inl (mem 68 24), .inr 68] mem Q) ∧ (¬ x4 ≤ (mem 68 23) → zR κ d Y_Mo_match 82 [some (.inr 68), some (.inl x1), some (.inl x2), some (.inl x3), some (.inl x4)] [.inl x3, .inr 68] mem Q))) ∧ (¬ x2 ≤ (x1 + x4) → vp_in (x1 + x4) 96 ∧ vp_in ((x1 + x4) - x3) 96 ∧ ((¬ (mem 69 (x1 + x4).toNatClampNeg) = (mem 69 ((x1 + x4) - x3).toNatClampNeg) → ((x4 ≤ (mem 68 23) → zR κ d Y_Mo_match 82 [some (.inr 68), some (.inl x1), some (.inl x2), some (.inl x3), some (.inl x4)] [.inl (mem 68 24), .inr 68] mem Q) ∧ (¬ x4 ≤ (mem 68 23) → zR κ d Y_Mo_match 82 [some (.inr 68), some (.inl x1), some (.inl x2), some (.inl x3), some (.inl x4)] [.inl x3, .inr 68] mem Q))) ∧ ((mem 69 (x1 + x4).toNatClampNeg) = (mem 69 ((x1 + x4) - x3).toNatClampNeg) → zR κ d Y_Mo_match 20 [some (.inr 68), some (.inl x1), some (.inl x2), some (.inl x3), some (.inl (x4 + 1))] [] mem Q))))))) : zR κ d Y_Mo_match 20 [some (.inr 68), some (.inl x1), some (.inl x2), some (.inl x3), some (.inl x4)] [] mem Q := by
  refine zR_iload d_Mo_match_20 rfl ?_
  refine zR_bipush (v := 57) d_Mo_match_22 (by decide) ?_
  refine zR_icmp_ge (tgt := 64) d_Mo_match_24 (by decide) (fun h1 => ?_) (fun h1 => ?_)
  · replace h := h.1 h1
    refine zR_aload_n d_Mo_match_64 rfl rfl ?_
    refine zR_iload d_Mo_match_65 rfl ?_
    refine zR_aload_n d_Mo_match_67 rfl rfl ?_
    refine zR_getI (j := 23) d_Mo_match_68 sh_68 cl_Mo rfl (by decide) g_230 ?_
    refine zR_icmp_le (tgt := 78) d_Mo_match_71 (by decide) (fun h1 => ?_) (fun h1 => ?_)
    · replace h := h.1 h1
      refine zR_aload_n d_Mo_match_78 rfl rfl ?_
      refine zR_getI (j := 24) d_Mo_match_79 sh_68 cl_Mo rfl (by decide) g_231 ?_
      exact h
    · replace h := h.2 h1
      refine zR_iload_n d_Mo_match_74 rfl rfl ?_
      refine zR_goto (tgt := 82) d_Mo_match_75 (by decide) ?_
      exact h
  · replace h := h.2 h1
    refine zR_iload_n d_Mo_match_27 rfl rfl ?_
    refine zR_iload d_Mo_match_28 rfl ?_
    refine zR_iadd d_Mo_match_30 ?_
    refine zR_iload_n d_Mo_match_31 rfl rfl ?_
    refine zR_icmp_ge (tgt := 64) d_Mo_match_32 (by decide) (fun h1 => ?_) (fun h1 => ?_)
    · replace h := h.1 h1
      refine zR_aload_n d_Mo_match_64 rfl rfl ?_
      refine zR_iload d_Mo_match_65 rfl ?_
      refine zR_aload_n d_Mo_match_67 rfl rfl ?_
      refine zR_getI (j := 23) d_Mo_match_68 sh_68 cl_Mo rfl (by decide) g_230 ?_
      refine zR_icmp_le (tgt := 78) d_Mo_match_71 (by decide) (fun h1 => ?_) (fun h1 => ?_)
      · replace h := h.1 h1
        refine zR_aload_n d_Mo_match_78 rfl rfl ?_
        refine zR_getI (j := 24) d_Mo_match_79 sh_68 cl_Mo rfl (by decide) g_231 ?_
        exact h
      · replace h := h.2 h1
        refine zR_iload_n d_Mo_match_74 rfl rfl ?_
        refine zR_goto (tgt := 82) d_Mo_match_75 (by decide) ?_
        exact h
    · replace h := h.2 h1
      refine zR_aload_n d_Mo_match_35 rfl rfl ?_
      refine zR_getR (j := 1) d_Mo_match_36 sh_68 cl_Mo rfl (by decide) g_222 ?_
      refine zR_iload_n d_Mo_match_39 rfl rfl ?_
      refine zR_iload d_Mo_match_40 rfl ?_
      refine zR_iadd d_Mo_match_42 ?_
      refine zR_iaload d_Mo_match_43 sh_69 h.1 rfl ?_
      replace h := h.2
      refine zR_aload_n d_Mo_match_44 rfl rfl ?_
      refine zR_getR (j := 1) d_Mo_match_45 sh_68 cl_Mo rfl (by decide) g_222 ?_
      refine zR_iload_n d_Mo_match_48 rfl rfl ?_
      refine zR_iload d_Mo_match_49 rfl ?_
      refine zR_iadd d_Mo_match_51 ?_
      refine zR_iload_n d_Mo_match_52 rfl rfl ?_
      refine zR_isub d_Mo_match_53 ?_
      refine zR_iaload d_Mo_match_54 sh_69 h.1 rfl ?_
      replace h := h.2
      refine zR_icmp_ne (tgt := 64) d_Mo_match_55 (by decide) (fun h1 => ?_) (fun h1 => ?_)
      · replace h := h.1 h1
        refine zR_aload_n d_Mo_match_64 rfl rfl ?_
        refine zR_iload d_Mo_match_65 rfl ?_
        refine zR_aload_n d_Mo_match_67 rfl rfl ?_
        refine zR_getI (j := 23) d_Mo_match_68 sh_68 cl_Mo rfl (by decide) g_230 ?_
        refine zR_icmp_le (tgt := 78) d_Mo_match_71 (by decide) (fun h1 => ?_) (fun h1 => ?_)
        · replace h := h.1 h1
          refine zR_aload_n d_Mo_match_78 rfl rfl ?_
          refine zR_getI (j := 24) d_Mo_match_79 sh_68 cl_Mo rfl (by decide) g_231 ?_
          exact h
        · replace h := h.2 h1
          refine zR_iload_n d_Mo_match_74 rfl rfl ?_
          refine zR_goto (tgt := 82) d_Mo_match_75 (by decide) ?_
          exact h
      · replace h := h.2 h1
        refine zR_iinc (v := 1) d_Mo_match_58 rfl (by decide) (by decide) ?_
        refine zR_goto (tgt := 20) d_Mo_match_61 (by decide) ?_
        exact h
theorem w_Mo_match_82 {κ : zK} {d : Nat} {mem : zM} {Q : Option zV → zM → Prop} {x1 x2 x3 x4 s1 : Int32}
    (h : ((x4 ≤ (mem 68 23) → zR κ d Y_Mo_match 12 [some (.inr 68), some (.inl x1), some (.inl x2), some (.inl (x3 + 1)), none] [] (zms (zms mem 68 24 s1) 68 23 (mem 68 23)) Q) ∧ (¬ x4 ≤ (mem 68 23) → zR κ d Y_Mo_match 12 [some (.inr 68), some (.inl x1), some (.inl x2), some (.inl (x3 + 1)), none] [] (zms (zms mem 68 24 s1) 68 23 x4) Q))) : zR κ d Y_Mo_match 82 [some (.inr 68), some (.inl x1), some (.inl x2), some (.inl x3), some (.inl x4)] [.inl s1, .inr 68] mem Q := by
  refine zR_put (j := 24) (ty := .int) d_Mo_match_82 sh_68 cl_Mo rfl (by decide) rfl (by decide +kernel) g_231 (zint _) ?_
  refine zR_aload_n d_Mo_match_85 rfl rfl ?_
  refine zR_iload d_Mo_match_86 rfl ?_
  refine zR_aload_n d_Mo_match_88 rfl rfl ?_
  refine zR_getI (j := 23) d_Mo_match_89 sh_68 cl_Mo rfl (by decide) g_230 ?_
  refine zR_icmp_le (tgt := 100) d_Mo_match_92 (by decide) (fun h1 => ?_) (fun h1 => ?_)
  · replace h := h.1 h1
    refine zR_aload_n d_Mo_match_100 rfl rfl ?_
    refine zR_getI (j := 23) d_Mo_match_101 sh_68 cl_Mo rfl (by decide) g_230 ?_
    refine zR_put (j := 23) (ty := .int) d_Mo_match_104 sh_68 cl_Mo rfl (by decide) rfl (by decide +kernel) g_230 (zint _) ?_
    refine zR_iinc (v := 1) d_Mo_match_107 rfl (by decide) (by decide) ?_
    refine zR_goto (tgt := 12) d_Mo_match_110 (by decide) ?_
    refine zR_drop 4 ?_
    exact h
  · replace h := h.2 h1
    refine zR_iload d_Mo_match_95 rfl ?_
    refine zR_goto (tgt := 104) d_Mo_match_97 (by decide) ?_
    refine zR_put (j := 23) (ty := .int) d_Mo_match_104 sh_68 cl_Mo rfl (by decide) rfl (by decide +kernel) g_230 (zint _) ?_
    refine zR_iinc (v := 1) d_Mo_match_107 rfl (by decide) (by decide) ?_
    refine zR_goto (tgt := 12) d_Mo_match_110 (by decide) ?_
    refine zR_drop 4 ?_
    exact h
theorem w_Mo_stands_0 {κ : zK} {d : Nat} {mem : zM} {Q : Option zV → zM → Prop} {x1 x2 x3 x4 : Int32}
    (h : zR κ d Y_Mo_bytesOf 0 [some (.inl x3), some (.inl x4)] [] mem (fun r m1 => ∃ y2 : Int32, r = some (.inl y2) ∧ (((x1 + y2) ≤ x2 → zR κ (d + 1) Y_Mo_stands 21 [some (.inr 68), some (.inl x1), some (.inl x2), some (.inl x3), some (.inl x4), some (.inl y2), some (.inl 0)] [] m1 Q) ∧ (¬ (x1 + y2) ≤ x2 → Q (some (.inl 0)) m1)))) : zR κ (d + 1) Y_Mo_stands 0 [some (.inr 68), some (.inl x1), some (.inl x2), some (.inl x3), some (.inl x4), none, none] [] mem Q := by
  refine zR_iload_n d_Mo_stands_0 rfl rfl ?_
  refine zR_iload d_Mo_stands_1 rfl ?_
  refine zR_callS (Y' := Y_Mo_bytesOf) (n := 2) (A := [.inl x3, .inl x4]) (S := []) v_Mo_bytesOf g_232 d_Mo_stands_3 rfl (Nat.le_of_ble_eq_true rfl) rfl (zR_cons ?_ h)
  rintro r_ m1 ⟨y2, rfl, h⟩
  show zR κ (d + 1) Y_Mo_stands 6 [some (.inr 68), some (.inl x1), some (.inl x2), some (.inl x3), some (.inl x4), none, none] [.inl y2] m1 Q
  refine zR_istore d_Mo_stands_6 (by decide) ?_
  refine zR_iload_n d_Mo_stands_8 rfl rfl ?_
  refine zR_iload d_Mo_stands_9 rfl ?_
  refine zR_iadd d_Mo_stands_11 ?_
  refine zR_iload_n d_Mo_stands_12 rfl rfl ?_
  refine zR_icmp_le (tgt := 18) d_Mo_stands_13 (by decide) (fun h1 => ?_) (fun h1 => ?_)
  · replace h := h.1 h1
    refine zR_iconst (v := 0) d_Mo_stands_18 (by decide) ?_
    refine zR_istore d_Mo_stands_19 (by decide) ?_
    exact h
  · replace h := h.2 h1
    refine zR_iconst (v := 0) d_Mo_stands_16 (by decide) ?_
    exact zR_zreturn rfl d_Mo_stands_17 (Or.inl rfl) h
theorem w_Mo_stands_21 {κ : zK} {d : Nat} {mem : zM} {Q : Option zV → zM → Prop} {x1 x2 x3 x4 x5 x6 : Int32}
    (h : ((x5 ≤ x6 → Q (some (.inl 1)) mem) ∧ (¬ x5 ≤ x6 → vp_in (x1 + x6) 96 ∧ zR κ d Y_Mo_byteOf 0 [some (.inl x3), some (.inl x4), some (.inl x6), none, none, none] [] mem (fun r m1 => ∃ y2 : Int32, r = some (.inl y2) ∧ (((mem 69 (x1 + x6).toNatClampNeg) = y2 → zR κ (d + 1) Y_Mo_stands 21 [some (.inr 68), some (.inl x1), some (.inl x2), some (.inl x3), some (.inl x4), some (.inl x5), some (.inl (x6 + 1))] [] m1 Q) ∧ (¬ (mem 69 (x1 + x6).toNatClampNeg) = y2 → Q (some (.inl 0)) m1)))))) : zR κ (d + 1) Y_Mo_stands 21 [some (.inr 68), some (.inl x1), some (.inl x2), some (.inl x3), some (.inl x4), some (.inl x5), some (.inl x6)] [] mem Q := by
  refine zR_iload d_Mo_stands_21 rfl ?_
  refine zR_iload d_Mo_stands_23 rfl ?_
  refine zR_icmp_ge (tgt := 56) d_Mo_stands_25 (by decide) (fun h1 => ?_) (fun h1 => ?_)
  · replace h := h.1 h1
    refine zR_iconst (v := 1) d_Mo_stands_56 (by decide) ?_
    exact zR_zreturn rfl d_Mo_stands_57 (Or.inr rfl) h
  · replace h := h.2 h1
    refine zR_aload_n d_Mo_stands_28 rfl rfl ?_
    refine zR_getR (j := 1) d_Mo_stands_29 sh_68 cl_Mo rfl (by decide) g_222 ?_
    refine zR_iload_n d_Mo_stands_32 rfl rfl ?_
    refine zR_iload d_Mo_stands_33 rfl ?_
    refine zR_iadd d_Mo_stands_35 ?_
    refine zR_iaload d_Mo_stands_36 sh_69 h.1 rfl ?_
    replace h := h.2
    refine zR_iload_n d_Mo_stands_37 rfl rfl ?_
    refine zR_iload d_Mo_stands_38 rfl ?_
    refine zR_iload d_Mo_stands_40 rfl ?_
    refine zR_callS (Y' := Y_Mo_byteOf) (n := 3) (A := [.inl x3, .inl x4, .inl x6]) (S := [.inl (mem 69 (x1 + x6).toNatClampNeg)]) v_Mo_byteOf g_233 d_Mo_stands_42 rfl (Nat.le_of_ble_eq_true rfl) rfl (zR_cons ?_ h)
    rintro r_ m1 ⟨y2, rfl, h⟩
    show zR κ (d + 1) Y_Mo_stands 45 [some (.inr 68), some (.inl x1), some (.inl x2), some (.inl x3), some (.inl x4), some (.inl x5), some (.inl x6)] [.inl y2, .inl (mem 69 (x1 + x6).toNatClampNeg)] m1 Q
    refine zR_icmp_eq (tgt := 50) d_Mo_stands_45 (by decide) (fun h1 => ?_) (fun h1 => ?_)
    · replace h := h.1 h1
      refine zR_iinc (v := 1) d_Mo_stands_50 rfl (by decide) (by decide) ?_
      refine zR_goto (tgt := 21) d_Mo_stands_53 (by decide) ?_
      exact h
    · replace h := h.2 h1
      refine zR_iconst (v := 0) d_Mo_stands_48 (by decide) ?_
      exact zR_zreturn rfl d_Mo_stands_49 (Or.inl rfl) h
theorem w_Mo_seek_0 {κ : zK} {d : Nat} {mem : zM} {Q : Option zV → zM → Prop} {x1 x2 : Int32}
    (h : zR κ (d + 1) Y_Mo_seek 7 [some (.inr 68), some (.inl x1), some (.inl x2), some (.inl 4), none] [] (zms mem 68 25 0) Q) : zR κ (d + 1) Y_Mo_seek 0 [some (.inr 68), some (.inl x1), some (.inl x2), none, none] [] mem Q := by
  refine zR_aload_n d_Mo_seek_0 rfl rfl ?_
  refine zR_iconst (v := 0) d_Mo_seek_1 (by decide) ?_
  refine zR_put (j := 25) (ty := .int) d_Mo_seek_2 sh_68 cl_Mo rfl (by decide) rfl (by decide +kernel) g_234 (zint _) ?_
  refine zR_iconst (v := 4) d_Mo_seek_5 (by decide) ?_
  refine zR_istore_n d_Mo_seek_6 rfl (by decide) ?_
  exact h
theorem w_Mo_seek_7 {κ : zK} {d : Nat} {mem : zM} {Q : Option zV → zM → Prop} {x1 x2 x3 : Int32}
    (h : ((5 < x3 → Q none mem) ∧ (¬ 5 < x3 → zR κ (d + 1) Y_Mo_seek 15 [some (.inr 68), some (.inl x1), some (.inl x2), some (.inl x3), some (.inl 0)] [] mem Q))) : zR κ (d + 1) Y_Mo_seek 7 [some (.inr 68), some (.inl x1), some (.inl x2), some (.inl x3), none] [] mem Q := by
  refine zR_iload_n d_Mo_seek_7 rfl rfl ?_
  refine zR_iconst (v := 5) d_Mo_seek_8 (by decide) ?_
  refine zR_icmp_gt (tgt := 80) d_Mo_seek_9 (by decide) (fun h1 => ?_) (fun h1 => ?_)
  · replace h := h.1 h1
    exact zR_return rfl d_Mo_seek_80 h
  · replace h := h.2 h1
    refine zR_iconst (v := 0) d_Mo_seek_12 (by decide) ?_
    refine zR_istore d_Mo_seek_13 (by decide) ?_
    exact h
theorem w_Mo_seek_15 {κ : zK} {d : Nat} {mem : zM} {Q : Option zV → zM → Prop} {x1 x2 x3 x4 : Int32}
    (h : ((16 ≤ x4 → zR κ (d + 1) Y_Mo_seek 7 [some (.inr 68), some (.inl x1), some (.inl x2), some (.inl (x3 + 1)), none] [] mem Q) ∧ (¬ 16 ≤ x4 → zR κ d Y_Mo_bytesOf 0 [some (.inl x3), some (.inl x4)] [] mem (fun r m1 => ∃ y2 : Int32, r = some (.inl y2) ∧ ((y2 ≤ (m1 68 25) → zR κ (d + 1) Y_Mo_seek 15 [some (.inr 68), some (.inl x1), some (.inl x2), some (.inl x3), some (.inl (x4 + 1))] [] m1 Q) ∧ (¬ y2 ≤ (m1 68 25) → zR κ d Y_Mo_stands 0 [some (.inr 68), some (.inl x1), some (.inl x2), some (.inl x3), some (.inl x4), none, none] [] m1 (fun r m3 => ∃ y4 : Int32, r = some (.inl y4) ∧ ((y4 = 0 → zR κ (d + 1) Y_Mo_seek 15 [some (.inr 68), some (.inl x1), some (.inl x2), some (.inl x3), some (.inl (x4 + 1))] [] m3 Q) ∧ (¬ y4 = 0 → zR κ d Y_Mo_bytesOf 0 [some (.inl x3), some (.inl x4)] [] m3 (fun r m5 => ∃ y6 : Int32, r = some (.inl y6) ∧ zR κ (d + 1) Y_Mo_seek 15 [some (.inr 68), some (.inl x1), some (.inl x2), some (.inl x3), some (.inl (x4 + 1))] [] (zms (zms (zms m5 68 25 y6) 68 26 x3) 68 27 x4) Q)))))))))) : zR κ (d + 1) Y_Mo_seek 15 [some (.inr 68), some (.inl x1), some (.inl x2), some (.inl x3), some (.inl x4)] [] mem Q := by
  refine zR_iload d_Mo_seek_15 rfl ?_
  refine zR_bipush (v := 16) d_Mo_seek_17 (by decide) ?_
  refine zR_icmp_ge (tgt := 74) d_Mo_seek_19 (by decide) (fun h1 => ?_) (fun h1 => ?_)
  · replace h := h.1 h1
    refine zR_iinc (v := 1) d_Mo_seek_74 rfl (by decide) (by decide) ?_
    refine zR_goto (tgt := 7) d_Mo_seek_77 (by decide) ?_
    refine zR_drop 4 ?_
    exact h
  · replace h := h.2 h1
    refine zR_iload_n d_Mo_seek_22 rfl rfl ?_
    refine zR_iload d_Mo_seek_23 rfl ?_
    refine zR_callS (Y' := Y_Mo_bytesOf) (n := 2) (A := [.inl x3, .inl x4]) (S := []) v_Mo_bytesOf g_232 d_Mo_seek_25 rfl (Nat.le_of_ble_eq_true rfl) rfl (zR_cons ?_ h)
    rintro r_ m1 ⟨y2, rfl, h⟩
    show zR κ (d + 1) Y_Mo_seek 28 [some (.inr 68), some (.inl x1), some (.inl x2), some (.inl x3), some (.inl x4)] [.inl y2] m1 Q
    refine zR_aload_n d_Mo_seek_28 rfl rfl ?_
    refine zR_getI (j := 25) d_Mo_seek_29 sh_68 cl_Mo rfl (by decide) g_234 ?_
    refine zR_icmp_le (tgt := 68) d_Mo_seek_32 (by decide) (fun h1 => ?_) (fun h1 => ?_)
    · replace h := h.1 h1
      refine zR_iinc (v := 1) d_Mo_seek_68 rfl (by decide) (by decide) ?_
      refine zR_goto (tgt := 15) d_Mo_seek_71 (by decide) ?_
      exact h
    · replace h := h.2 h1
      refine zR_aload_n d_Mo_seek_35 rfl rfl ?_
      refine zR_iload_n d_Mo_seek_36 rfl rfl ?_
      refine zR_iload_n d_Mo_seek_37 rfl rfl ?_
      refine zR_iload_n d_Mo_seek_38 rfl rfl ?_
      refine zR_iload d_Mo_seek_39 rfl ?_
      refine zR_callV (Y' := Y_Mo_stands) (n := 4) (A := [.inl x1, .inl x2, .inl x3, .inl x4]) (b := 68) (S := []) v_Mo_stands g_235 sh_68 cl_Mo rfl d_Mo_seek_41 rfl (Nat.le_of_ble_eq_true rfl) rfl (zR_cons ?_ h)
      rintro r_ m3 ⟨y4, rfl, h⟩
      show zR κ (d + 1) Y_Mo_seek 44 [some (.inr 68), some (.inl x1), some (.inl x2), some (.inl x3), some (.inl x4)] [.inl y4] m3 Q
      refine zR_if_eq (tgt := 68) d_Mo_seek_44 (by decide) (fun h1 => ?_) (fun h1 => ?_)
      · replace h := h.1 h1
        refine zR_iinc (v := 1) d_Mo_seek_68 rfl (by decide) (by decide) ?_
        refine zR_goto (tgt := 15) d_Mo_seek_71 (by decide) ?_
        exact h
      · replace h := h.2 h1
        refine zR_aload_n d_Mo_seek_47 rfl rfl ?_
        refine zR_iload_n d_Mo_seek_48 rfl rfl ?_
        refine zR_iload d_Mo_seek_49 rfl ?_
        refine zR_callS (Y' := Y_Mo_bytesOf) (n := 2) (A := [.inl x3, .inl x4]) (S := [.inr 68]) v_Mo_bytesOf g_232 d_Mo_seek_51 rfl (Nat.le_of_ble_eq_true rfl) rfl (zR_cons ?_ h)
        rintro r_ m5 ⟨y6, rfl, h⟩
        show zR κ (d + 1) Y_Mo_seek 54 [some (.inr 68), some (.inl x1), some (.inl x2), some (.inl x3), some (.inl x4)] [.inl y6, .inr 68] m5 Q
        refine zR_put (j := 25) (ty := .int) d_Mo_seek_54 sh_68 cl_Mo rfl (by decide) rfl (by decide +kernel) g_234 (zint _) ?_
        refine zR_aload_n d_Mo_seek_57 rfl rfl ?_
        refine zR_iload_n d_Mo_seek_58 rfl rfl ?_
        refine zR_put (j := 26) (ty := .int) d_Mo_seek_59 sh_68 cl_Mo rfl (by decide) rfl (by decide +kernel) g_236 (zint _) ?_
        refine zR_aload_n d_Mo_seek_62 rfl rfl ?_
        refine zR_iload d_Mo_seek_63 rfl ?_
        refine zR_put (j := 27) (ty := .int) d_Mo_seek_65 sh_68 cl_Mo rfl (by decide) rfl (by decide +kernel) g_237 (zint _) ?_
        refine zR_iinc (v := 1) d_Mo_seek_68 rfl (by decide) (by decide) ?_
        refine zR_goto (tgt := 15) d_Mo_seek_71 (by decide) ?_
        exact h
theorem w_Mo_lowest_0 {κ : zK} {d : Nat} {mem : zM} {Q : Option zV → zM → Prop} {x0 : Int32}
    (h : ((7 < x0 → ((¬ x0 = 8 → Q (some (.inl (((1 : Int32) <<< ((x0 - 7) &&& 31)) + 1))) mem) ∧ (x0 = 8 → Q (some (.inl 3)) mem))) ∧ (¬ 7 < x0 → Q (some (.inl (x0 - 5))) mem))) : zR κ d Y_Mo_lowest 0 [some (.inl x0)] [] mem Q := by
  refine zR_iload_n d_Mo_lowest_0 rfl rfl ?_
  refine zR_bipush (v := 7) d_Mo_lowest_1 (by decide) ?_
  refine zR_icmp_gt (tgt := 12) d_Mo_lowest_3 (by decide) (fun h1 => ?_) (fun h1 => ?_)
  · replace h := h.1 h1
    refine zR_iload_n d_Mo_lowest_12 rfl rfl ?_
    refine zR_bipush (v := 8) d_Mo_lowest_13 (by decide) ?_
    refine zR_icmp_ne (tgt := 22) d_Mo_lowest_15 (by decide) (fun h1 => ?_) (fun h1 => ?_)
    · replace h := h.1 h1
      refine zR_iconst (v := 1) d_Mo_lowest_22 (by decide) ?_
      refine zR_iload_n d_Mo_lowest_23 rfl rfl ?_
      refine zR_bipush (v := 7) d_Mo_lowest_24 (by decide) ?_
      refine zR_isub d_Mo_lowest_26 ?_
      refine zR_ishl d_Mo_lowest_27 rfl ?_
      refine zR_iconst (v := 1) d_Mo_lowest_28 (by decide) ?_
      refine zR_iadd d_Mo_lowest_29 ?_
      exact zR_ireturn rfl d_Mo_lowest_30 h
    · replace h := h.2 h1
      refine zR_iconst (v := 3) d_Mo_lowest_18 (by decide) ?_
      refine zR_goto (tgt := 30) d_Mo_lowest_19 (by decide) ?_
      exact zR_ireturn rfl d_Mo_lowest_30 h
  · replace h := h.2 h1
    refine zR_iload_n d_Mo_lowest_6 rfl rfl ?_
    refine zR_iconst (v := 5) d_Mo_lowest_7 (by decide) ?_
    refine zR_isub d_Mo_lowest_8 ?_
    refine zR_goto (tgt := 30) d_Mo_lowest_9 (by decide) ?_
    exact zR_ireturn rfl d_Mo_lowest_30 h
theorem w_Mo_extra_0 {κ : zK} {d : Nat} {mem : zM} {Q : Option zV → zM → Prop} {x0 : Int32}
    (h : ((7 < x0 → Q (some (.inl (x0 - 7))) mem) ∧ (¬ 7 < x0 → Q (some (.inl 0)) mem))) : zR κ d Y_Mo_extra 0 [some (.inl x0)] [] mem Q := by
  refine zR_iload_n d_Mo_extra_0 rfl rfl ?_
  refine zR_bipush (v := 7) d_Mo_extra_1 (by decide) ?_
  refine zR_icmp_gt (tgt := 10) d_Mo_extra_3 (by decide) (fun h1 => ?_) (fun h1 => ?_)
  · replace h := h.1 h1
    refine zR_iload_n d_Mo_extra_10 rfl rfl ?_
    refine zR_bipush (v := 7) d_Mo_extra_11 (by decide) ?_
    refine zR_isub d_Mo_extra_13 ?_
    exact zR_ireturn rfl d_Mo_extra_14 h
  · replace h := h.2 h1
    refine zR_iconst (v := 0) d_Mo_extra_6 (by decide) ?_
    refine zR_goto (tgt := 14) d_Mo_extra_7 (by decide) ?_
    exact zR_ireturn rfl d_Mo_extra_14 h
theorem w_Mo_distance_0 {κ : zK} {d : Nat} {mem : zM} {Q : Option zV → zM → Prop} {x1 x2 : Int32}
    (h : zR κ (d + 1) Y_Mo_distance 5 [some (.inr 68), some (.inl x1), some (.inl x2), some (.inl (-1)), some (.inl 3)] [] mem Q) : zR κ (d + 1) Y_Mo_distance 0 [some (.inr 68), some (.inl x1), some (.inl x2), none, none] [] mem Q := by
  refine zR_iconst (v := (-1)) d_Mo_distance_0 (by decide) ?_
  refine zR_istore_n d_Mo_distance_1 rfl (by decide) ?_
  refine zR_iconst (v := 3) d_Mo_distance_2 (by decide) ?_
  refine zR_istore d_Mo_distance_3 (by decide) ?_
  exact h
theorem w_Mo_distance_5 {κ : zK} {d : Nat} {mem : zM} {Q : Option zV → zM → Prop} {x1 x2 x3 x4 : Int32}
    (h : ((x4 < 0 → zR κ (d + 1) Y_Mo_distance 38 [some (.inr 68), some (.inl x1), some (.inl x2), some (.inl x3), some (.inl x4)] [] mem Q) ∧ (¬ x4 < 0 → ((x2 = 0 → zR κ (d + 1) Y_Mo_distance 38 [some (.inr 68), some (.inl x1), some (.inl x2), some (.inl x3), some (.inl x4)] [] mem Q) ∧ (¬ x2 = 0 → vp_in x4 4 ∧ ((¬ (mem 75 x4.toNatClampNeg) = x1 → zR κ (d + 1) Y_Mo_distance 5 [some (.inr 68), some (.inl x1), some (.inl x2), some (.inl x3), some (.inl (x4 + (-1)))] [] mem Q) ∧ ((mem 75 x4.toNatClampNeg) = x1 → zR κ (d + 1) Y_Mo_distance 5 [some (.inr 68), some (.inl x1), some (.inl x2), some (.inl x4), some (.inl (x4 + (-1)))] [] mem Q))))))) : zR κ (d + 1) Y_Mo_distance 5 [some (.inr 68), some (.inl x1), some (.inl x2), some (.inl x3), some (.inl x4)] [] mem Q := by
  refine zR_iload d_Mo_distance_5 rfl ?_
  refine zR_if_lt (tgt := 38) d_Mo_distance_7 (by decide) (fun h1 => ?_) (fun h1 => ?_)
  · replace h := h.1 h1
    exact h
  · replace h := h.2 h1
    refine zR_iload_n d_Mo_distance_10 rfl rfl ?_
    refine zR_if_eq (tgt := 38) d_Mo_distance_11 (by decide) (fun h1 => ?_) (fun h1 => ?_)
    · replace h := h.1 h1
      exact h
    · replace h := h.2 h1
      refine zR_aload_n d_Mo_distance_14 rfl rfl ?_
      refine zR_getR (j := 13) d_Mo_distance_15 sh_68 cl_Mo rfl (by decide) g_238 ?_
      refine zR_iload d_Mo_distance_18 rfl ?_
      refine zR_iaload d_Mo_distance_20 sh_75 h.1 rfl ?_
      replace h := h.2
      refine zR_iload_n d_Mo_distance_21 rfl rfl ?_
      refine zR_icmp_ne (tgt := 30) d_Mo_distance_22 (by decide) (fun h1 => ?_) (fun h1 => ?_)
      · replace h := h.1 h1
        refine zR_iload_n d_Mo_distance_30 rfl rfl ?_
        refine zR_istore_n d_Mo_distance_31 rfl (by decide) ?_
        refine zR_iinc (v := (-1)) d_Mo_distance_32 rfl (by decide) (by decide) ?_
        refine zR_goto (tgt := 5) d_Mo_distance_35 (by decide) ?_
        exact h
      · replace h := h.2 h1
        refine zR_iload d_Mo_distance_25 rfl ?_
        refine zR_goto (tgt := 31) d_Mo_distance_27 (by decide) ?_
        refine zR_istore_n d_Mo_distance_31 rfl (by decide) ?_
        refine zR_iinc (v := (-1)) d_Mo_distance_32 rfl (by decide) (by decide) ?_
        refine zR_goto (tgt := 5) d_Mo_distance_35 (by decide) ?_
        exact h
theorem w_Mo_distance_38 {κ : zK} {d : Nat} {mem : zM} {Q : Option zV → zM → Prop} {x1 x2 x3 x4 : Int32}
    (h : ((0 ≤ x3 → zR κ (d + 1) Y_Mo_distance 80 [some (.inr 68), some (.inl x1), some (.inl x2), some (.inl x3), some (.inl x4)] [] mem Q) ∧ (¬ 0 ≤ x3 → ((x2 = 0 → zR κ (d + 1) Y_Mo_distance 80 [some (.inr 68), some (.inl x1), some (.inl x2), some (.inl x3), some (.inl x4)] [] mem Q) ∧ (¬ x2 = 0 → ((¬ x1 = ((mem 75 0) - 1) → ((¬ x1 = ((mem 75 0) + 1) → zR κ (d + 1) Y_Mo_distance 80 [some (.inr 68), some (.inl x1), some (.inl x2), some (.inl (-1)), some (.inl x4)] [] mem Q) ∧ (x1 = ((mem 75 0) + 1) → zR κ (d + 1) Y_Mo_distance 80 [some (.inr 68), some (.inl x1), some (.inl x2), some (.inl 5), some (.inl x4)] [] mem Q))) ∧ (x1 = ((mem 75 0) - 1) → zR κ (d + 1) Y_Mo_distance 80 [some (.inr 68), some (.inl x1), some (.inl x2), some (.inl 4), some (.inl x4)] [] mem Q))))))) : zR κ (d + 1) Y_Mo_distance 38 [some (.inr 68), some (.inl x1), some (.inl x2), some (.inl x3), some (.inl x4)] [] mem Q := by
  refine zR_iload_n d_Mo_distance_38 rfl rfl ?_
  refine zR_if_ge (tgt := 80) d_Mo_distance_39 (by decide) (fun h1 => ?_) (fun h1 => ?_)
  · replace h := h.1 h1
    exact h
  · replace h := h.2 h1
    refine zR_iload_n d_Mo_distance_42 rfl rfl ?_
    refine zR_if_eq (tgt := 80) d_Mo_distance_43 (by decide) (fun h1 => ?_) (fun h1 => ?_)
    · replace h := h.1 h1
      exact h
    · replace h := h.2 h1
      refine zR_iload_n d_Mo_distance_46 rfl rfl ?_
      refine zR_aload_n d_Mo_distance_47 rfl rfl ?_
      refine zR_getR (j := 13) d_Mo_distance_48 sh_68 cl_Mo rfl (by decide) g_238 ?_
      refine zR_iconst (v := 0) d_Mo_distance_51 (by decide) ?_
      refine zR_iaload (j := 0) d_Mo_distance_52 sh_75 (vp_in_nI (n := 0) (by decide) (by decide)) (by decide) ?_
      refine zR_iconst (v := 1) d_Mo_distance_53 (by decide) ?_
      refine zR_isub d_Mo_distance_54 ?_
      refine zR_icmp_ne (tgt := 62) d_Mo_distance_55 (by decide) (fun h1 => ?_) (fun h1 => ?_)
      · replace h := h.1 h1
        refine zR_iload_n d_Mo_distance_62 rfl rfl ?_
        refine zR_aload_n d_Mo_distance_63 rfl rfl ?_
        refine zR_getR (j := 13) d_Mo_distance_64 sh_68 cl_Mo rfl (by decide) g_238 ?_
        refine zR_iconst (v := 0) d_Mo_distance_67 (by decide) ?_
        refine zR_iaload (j := 0) d_Mo_distance_68 sh_75 (vp_in_nI (n := 0) (by decide) (by decide)) (by decide) ?_
        refine zR_iconst (v := 1) d_Mo_distance_69 (by decide) ?_
        refine zR_iadd d_Mo_distance_70 ?_
        refine zR_icmp_ne (tgt := 78) d_Mo_distance_71 (by decide) (fun h1 => ?_) (fun h1 => ?_)
        · replace h := h.1 h1
          refine zR_iconst (v := (-1)) d_Mo_distance_78 (by decide) ?_
          refine zR_istore_n d_Mo_distance_79 rfl (by decide) ?_
          exact h
        · replace h := h.2 h1
          refine zR_iconst (v := 5) d_Mo_distance_74 (by decide) ?_
          refine zR_goto (tgt := 79) d_Mo_distance_75 (by decide) ?_
          refine zR_istore_n d_Mo_distance_79 rfl (by decide) ?_
          exact h
      · replace h := h.2 h1
        refine zR_iconst (v := 4) d_Mo_distance_58 (by decide) ?_
        refine zR_goto (tgt := 79) d_Mo_distance_59 (by decide) ?_
        refine zR_istore_n d_Mo_distance_79 rfl (by decide) ?_
        exact h
theorem w_Mo_distance_80 {κ : zK} {d : Nat} {mem : zM} {Q : Option zV → zM → Prop} {x1 x2 x3 x4 : Int32}
    (h : vp_in (mem 68 15) 50 ∧ ((0 ≤ x3 → vp_in (mem 68 15) 50 ∧ Q none (zms (zms mem 81 (mem 68 15).toNatClampNeg 0) 80 (mem 68 15).toNatClampNeg x3)) ∧ (¬ 0 ≤ x3 → zR κ (d + 1) Y_Mo_distance 97 [some (.inr 68), some (.inl x1), some (.inl x2), some (.inl 13), some (.inl x4)] [] (zms mem 81 (mem 68 15).toNatClampNeg 0) Q))) : zR κ (d + 1) Y_Mo_distance 80 [some (.inr 68), some (.inl x1), some (.inl x2), some (.inl x3), some (.inl x4)] [] mem Q := by
  refine zR_aload_n d_Mo_distance_80 rfl rfl ?_
  refine zR_getR (j := 20) d_Mo_distance_81 sh_68 cl_Mo rfl (by decide) g_239 ?_
  refine zR_aload_n d_Mo_distance_84 rfl rfl ?_
  refine zR_getI (j := 15) d_Mo_distance_85 sh_68 cl_Mo rfl (by decide) g_240 ?_
  refine zR_iconst (v := 0) d_Mo_distance_88 (by decide) ?_
  refine zR_iastore d_Mo_distance_89 sh_81 h.1 rfl ?_
  replace h := h.2
  refine zR_iload_n d_Mo_distance_90 rfl rfl ?_
  refine zR_if_ge (tgt := 126) d_Mo_distance_91 (by decide) (fun h1 => ?_) (fun h1 => ?_)
  · replace h := h.1 h1
    refine zR_aload_n d_Mo_distance_126 rfl rfl ?_
    refine zR_getR (j := 19) d_Mo_distance_127 sh_68 cl_Mo rfl (by decide) g_241 ?_
    refine zR_aload_n d_Mo_distance_130 rfl rfl ?_
    refine zR_getI (j := 15) d_Mo_distance_131 sh_68 cl_Mo rfl (by decide) g_240 ?_
    refine zR_iload_n d_Mo_distance_134 rfl rfl ?_
    refine zR_iastore d_Mo_distance_135 sh_80 h.1 rfl ?_
    replace h := h.2
    exact zR_return rfl d_Mo_distance_136 h
  · replace h := h.2 h1
    refine zR_bipush (v := 13) d_Mo_distance_94 (by decide) ?_
    refine zR_istore_n d_Mo_distance_96 rfl (by decide) ?_
    exact h
theorem w_Mo_distance_97 {κ : zK} {d : Nat} {mem : zM} {Q : Option zV → zM → Prop} {x1 x2 x3 x4 : Int32}
    (h : zR κ d Y_Mo_lowest 0 [some (.inl x3)] [] mem (fun r m1 => ∃ y2 : Int32, r = some (.inl y2) ∧ ((y2 ≤ x1 → zR κ d Y_Mo_lowest 0 [some (.inl x3)] [] m1 (fun r m3 => ∃ y4 : Int32, r = some (.inl y4) ∧ vp_in (m1 68 15) 50 ∧ vp_in (m3 68 15) 50 ∧ Q none (zms (zms m3 81 (m1 68 15).toNatClampNeg (x1 - y4)) 80 (m3 68 15).toNatClampNeg x3))) ∧ (¬ y2 ≤ x1 → zR κ (d + 1) Y_Mo_distance 97 [some (.inr 68), some (.inl x1), some (.inl x2), some (.inl (x3 + (-1))), some (.inl x4)] [] m1 Q)))) : zR κ (d + 1) Y_Mo_distance 97 [some (.inr 68), some (.inl x1), some (.inl x2), some (.inl x3), some (.inl x4)] [] mem Q := by
  refine zR_iload_n d_Mo_distance_97 rfl rfl ?_
  refine zR_callS (Y' := Y_Mo_lowest) (n := 1) (A := [.inl x3]) (S := []) v_Mo_lowest g_242 d_Mo_distance_98 rfl (Nat.le_of_ble_eq_true rfl) rfl (zR_cons ?_ h)
  rintro r_ m1 ⟨y2, rfl, h⟩
  show zR κ (d + 1) Y_Mo_distance 101 [some (.inr 68), some (.inl x1), some (.inl x2), some (.inl x3), some (.inl x4)] [.inl y2] m1 Q
  refine zR_iload_n d_Mo_distance_101 rfl rfl ?_
  refine zR_icmp_le (tgt := 111) d_Mo_distance_102 (by decide) (fun h1 => ?_) (fun h1 => ?_)
  · replace h := h.1 h1
    refine zR_aload_n d_Mo_distance_111 rfl rfl ?_
    refine zR_getR (j := 20) d_Mo_distance_112 sh_68 cl_Mo rfl (by decide) g_239 ?_
    refine zR_aload_n d_Mo_distance_115 rfl rfl ?_
    refine zR_getI (j := 15) d_Mo_distance_116 sh_68 cl_Mo rfl (by decide) g_240 ?_
    refine zR_iload_n d_Mo_distance_119 rfl rfl ?_
    refine zR_iload_n d_Mo_distance_120 rfl rfl ?_
    refine zR_callS (Y' := Y_Mo_lowest) (n := 1) (A := [.inl x3]) (S := [.inl x1, .inl (m1 68 15), .inr 81]) v_Mo_lowest g_242 d_Mo_distance_121 rfl (Nat.le_of_ble_eq_true rfl) rfl (zR_cons ?_ h)
    rintro r_ m3 ⟨y4, rfl, h⟩
    show zR κ (d + 1) Y_Mo_distance 124 [some (.inr 68), some (.inl x1), some (.inl x2), some (.inl x3), some (.inl x4)] [.inl y4, .inl x1, .inl (m1 68 15), .inr 81] m3 Q
    refine zR_isub d_Mo_distance_124 ?_
    refine zR_iastore d_Mo_distance_125 sh_81 h.1 rfl ?_
    replace h := h.2
    refine zR_aload_n d_Mo_distance_126 rfl rfl ?_
    refine zR_getR (j := 19) d_Mo_distance_127 sh_68 cl_Mo rfl (by decide) g_241 ?_
    refine zR_aload_n d_Mo_distance_130 rfl rfl ?_
    refine zR_getI (j := 15) d_Mo_distance_131 sh_68 cl_Mo rfl (by decide) g_240 ?_
    refine zR_iload_n d_Mo_distance_134 rfl rfl ?_
    refine zR_iastore d_Mo_distance_135 sh_80 h.1 rfl ?_
    replace h := h.2
    exact zR_return rfl d_Mo_distance_136 h
  · replace h := h.2 h1
    refine zR_iinc (v := (-1)) d_Mo_distance_105 rfl (by decide) (by decide) ?_
    refine zR_goto (tgt := 97) d_Mo_distance_108 (by decide) ?_
    exact h
theorem w_Mo_remember_0 {κ : zK} {d : Nat} {mem : zM} {Q : Option zV → zM → Prop} {x1 : Int32}
    (h : Q none (zms (zms (zms (zms mem 75 3 (mem 75 2)) 75 2 (mem 75 1)) 75 1 (mem 75 0)) 75 0 x1)) : zR κ d Y_Mo_remember 0 [some (.inr 68), some (.inl x1)] [] mem Q := by
  refine zR_aload_n d_Mo_remember_0 rfl rfl ?_
  refine zR_getR (j := 13) d_Mo_remember_1 sh_68 cl_Mo rfl (by decide) g_238 ?_
  refine zR_iconst (v := 3) d_Mo_remember_4 (by decide) ?_
  refine zR_aload_n d_Mo_remember_5 rfl rfl ?_
  refine zR_getR (j := 13) d_Mo_remember_6 sh_68 cl_Mo rfl (by decide) g_238 ?_
  refine zR_iconst (v := 2) d_Mo_remember_9 (by decide) ?_
  refine zR_iaload (j := 2) d_Mo_remember_10 sh_75 (vp_in_nI (n := 2) (by decide) (by decide)) (by decide) ?_
  refine zR_iastore (j := 3) d_Mo_remember_11 sh_75 (vp_in_nI (n := 3) (by decide) (by decide)) (by decide) ?_
  refine zR_aload_n d_Mo_remember_12 rfl rfl ?_
  refine zR_getR (j := 13) d_Mo_remember_13 sh_68 cl_Mo rfl (by decide) g_238 ?_
  refine zR_iconst (v := 2) d_Mo_remember_16 (by decide) ?_
  refine zR_aload_n d_Mo_remember_17 rfl rfl ?_
  refine zR_getR (j := 13) d_Mo_remember_18 sh_68 cl_Mo rfl (by decide) g_238 ?_
  refine zR_iconst (v := 1) d_Mo_remember_21 (by decide) ?_
  refine zR_iaload (j := 1) d_Mo_remember_22 sh_75 (vp_in_nI (n := 1) (by decide) (by decide)) (by decide) ?_
  refine zR_iastore (j := 2) d_Mo_remember_23 sh_75 (vp_in_nI (n := 2) (by decide) (by decide)) (by decide) ?_
  refine zR_aload_n d_Mo_remember_24 rfl rfl ?_
  refine zR_getR (j := 13) d_Mo_remember_25 sh_68 cl_Mo rfl (by decide) g_238 ?_
  refine zR_iconst (v := 1) d_Mo_remember_28 (by decide) ?_
  refine zR_aload_n d_Mo_remember_29 rfl rfl ?_
  refine zR_getR (j := 13) d_Mo_remember_30 sh_68 cl_Mo rfl (by decide) g_238 ?_
  refine zR_iconst (v := 0) d_Mo_remember_33 (by decide) ?_
  refine zR_iaload (j := 0) d_Mo_remember_34 sh_75 (vp_in_nI (n := 0) (by decide) (by decide)) (by decide) ?_
  refine zR_iastore (j := 1) d_Mo_remember_35 sh_75 (vp_in_nI (n := 1) (by decide) (by decide)) (by decide) ?_
  refine zR_aload_n d_Mo_remember_36 rfl rfl ?_
  refine zR_getR (j := 13) d_Mo_remember_37 sh_68 cl_Mo rfl (by decide) g_238 ?_
  refine zR_iconst (v := 0) d_Mo_remember_40 (by decide) ?_
  refine zR_iload_n d_Mo_remember_41 rfl rfl ?_
  refine zR_iastore (j := 0) d_Mo_remember_42 sh_75 (vp_in_nI (n := 0) (by decide) (by decide)) (by decide) ?_
  exact zR_return rfl d_Mo_remember_43 h
theorem w_Mo_command_0 {κ : zK} {d : Nat} {mem : zM} {Q : Option zV → zM → Prop} {x1 x2 x3 x4 x5 : Int32}
    (h : vp_in (mem 68 15) 50 ∧ vp_in (mem 68 15) 50 ∧ vp_in (mem 68 15) 50 ∧ ((x5 = 0 → zR κ (d + 1) Y_Mo_command 49 [some (.inr 68), some (.inl x1), some (.inl x2), some (.inl x3), some (.inl x4), some (.inl x5)] [.inl 0, .inl (mem 68 15), .inr 83] (zms (zms (zms mem 77 (mem 68 15).toNatClampNeg x1) 79 (mem 68 15).toNatClampNeg x2) 82 (mem 68 15).toNatClampNeg x4) Q) ∧ (¬ x5 = 0 → zR κ (d + 1) Y_Mo_command 49 [some (.inr 68), some (.inl x1), some (.inl x2), some (.inl x3), some (.inl x4), some (.inl x5)] [.inl 1, .inl (mem 68 15), .inr 83] (zms (zms (zms mem 77 (mem 68 15).toNatClampNeg x1) 79 (mem 68 15).toNatClampNeg x2) 82 (mem 68 15).toNatClampNeg x4) Q))) : zR κ (d + 1) Y_Mo_command 0 [some (.inr 68), some (.inl x1), some (.inl x2), some (.inl x3), some (.inl x4), some (.inl x5)] [] mem Q := by
  refine zR_aload_n d_Mo_command_0 rfl rfl ?_
  refine zR_getR (j := 16) d_Mo_command_1 sh_68 cl_Mo rfl (by decide) g_243 ?_
  refine zR_aload_n d_Mo_command_4 rfl rfl ?_
  refine zR_getI (j := 15) d_Mo_command_5 sh_68 cl_Mo rfl (by decide) g_240 ?_
  refine zR_iload_n d_Mo_command_8 rfl rfl ?_
  refine zR_iastore d_Mo_command_9 sh_77 h.1 rfl ?_
  replace h := h.2
  refine zR_aload_n d_Mo_command_10 rfl rfl ?_
  refine zR_getR (j := 18) d_Mo_command_11 sh_68 cl_Mo rfl (by decide) g_244 ?_
  refine zR_aload_n d_Mo_command_14 rfl rfl ?_
  refine zR_getI (j := 15) d_Mo_command_15 sh_68 cl_Mo rfl (by decide) g_240 ?_
  refine zR_iload_n d_Mo_command_18 rfl rfl ?_
  refine zR_iastore d_Mo_command_19 sh_79 h.1 rfl ?_
  replace h := h.2
  refine zR_aload_n d_Mo_command_20 rfl rfl ?_
  refine zR_getR (j := 21) d_Mo_command_21 sh_68 cl_Mo rfl (by decide) g_245 ?_
  refine zR_aload_n d_Mo_command_24 rfl rfl ?_
  refine zR_getI (j := 15) d_Mo_command_25 sh_68 cl_Mo rfl (by decide) g_240 ?_
  refine zR_iload d_Mo_command_28 rfl ?_
  refine zR_iastore d_Mo_command_30 sh_82 h.1 rfl ?_
  replace h := h.2
  refine zR_aload_n d_Mo_command_31 rfl rfl ?_
  refine zR_getR (j := 22) d_Mo_command_32 sh_68 cl_Mo rfl (by decide) g_246 ?_
  refine zR_aload_n d_Mo_command_35 rfl rfl ?_
  refine zR_getI (j := 15) d_Mo_command_36 sh_68 cl_Mo rfl (by decide) g_240 ?_
  refine zR_iload d_Mo_command_39 rfl ?_
  refine zR_if_eq (tgt := 48) d_Mo_command_41 (by decide) (fun h1 => ?_) (fun h1 => ?_)
  · replace h := h.1 h1
    refine zR_iconst (v := 0) d_Mo_command_48 (by decide) ?_
    exact h
  · replace h := h.2 h1
    refine zR_iconst (v := 1) d_Mo_command_44 (by decide) ?_
    refine zR_goto (tgt := 49) d_Mo_command_45 (by decide) ?_
    exact h
theorem w_Mo_command_49 {κ : zK} {d : Nat} {mem : zM} {Q : Option zV → zM → Prop} {x1 x2 x3 x4 x5 s1 s2 : Int32}
    (h : vp_in s1 50 ∧ vp_in (mem 68 15) 50 ∧ ((2 ≤ x2 → ((5 < x2 → ((10 ≤ x2 → ((26 ≤ x2 → zR κ (d + 1) Y_Mo_command 110 [some (.inr 68), some (.inl x1), some (.inl x2), some (.inl x3), some (.inl x4), some (.inl x5)] [.inl 6, .inl (mem 68 15), .inr 78] (zms (zms mem 83 s1.toNatClampNeg s2) 80 (mem 68 15).toNatClampNeg (-1)) Q) ∧ (¬ 26 ≤ x2 → zR κ (d + 1) Y_Mo_command 110 [some (.inr 68), some (.inl x1), some (.inl x2), some (.inl x3), some (.inl x4), some (.inl x5)] [.inl 5, .inl (mem 68 15), .inr 78] (zms (zms mem 83 s1.toNatClampNeg s2) 80 (mem 68 15).toNatClampNeg (-1)) Q))) ∧ (¬ 10 ≤ x2 → zR κ (d + 1) Y_Mo_command 110 [some (.inr 68), some (.inl x1), some (.inl x2), some (.inl x3), some (.inl x4), some (.inl x5)] [.inl 4, .inl (mem 68 15), .inr 78] (zms (zms mem 83 s1.toNatClampNeg s2) 80 (mem 68 15).toNatClampNeg (-1)) Q))) ∧ (¬ 5 < x2 → zR κ (d + 1) Y_Mo_command 110 [some (.inr 68), some (.inl x1), some (.inl x2), some (.inl x3), some (.inl x4), some (.inl x5)] [.inl (x2 - 2), .inl (mem 68 15), .inr 78] (zms (zms mem 83 s1.toNatClampNeg s2) 80 (mem 68 15).toNatClampNeg (-1)) Q))) ∧ (¬ 2 ≤ x2 → zR κ (d + 1) Y_Mo_command 110 [some (.inr 68), some (.inl x1), some (.inl x2), some (.inl x3), some (.inl x4), some (.inl x5)] [.inl 0, .inl (mem 68 15), .inr 78] (zms (zms mem 83 s1.toNatClampNeg s2) 80 (mem 68 15).toNatClampNeg (-1)) Q))) : zR κ (d + 1) Y_Mo_command 49 [some (.inr 68), some (.inl x1), some (.inl x2), some (.inl x3), some (.inl x4), some (.inl x5)] [.inl s2, .inl s1, .inr 83] mem Q := by
  refine zR_iastore d_Mo_command_49 sh_83 h.1 rfl ?_
  replace h := h.2
  refine zR_aload_n d_Mo_command_50 rfl rfl ?_
  refine zR_getR (j := 19) d_Mo_command_51 sh_68 cl_Mo rfl (by decide) g_241 ?_
  refine zR_aload_n d_Mo_command_54 rfl rfl ?_
  refine zR_getI (j := 15) d_Mo_command_55 sh_68 cl_Mo rfl (by decide) g_240 ?_
  refine zR_iconst (v := (-1)) d_Mo_command_58 (by decide) ?_
  refine zR_iastore d_Mo_command_59 sh_80 h.1 rfl ?_
  replace h := h.2
  refine zR_aload_n d_Mo_command_60 rfl rfl ?_
  refine zR_getR (j := 17) d_Mo_command_61 sh_68 cl_Mo rfl (by decide) g_247 ?_
  refine zR_aload_n d_Mo_command_64 rfl rfl ?_
  refine zR_getI (j := 15) d_Mo_command_65 sh_68 cl_Mo rfl (by decide) g_240 ?_
  refine zR_iload_n d_Mo_command_68 rfl rfl ?_
  refine zR_iconst (v := 2) d_Mo_command_69 (by decide) ?_
  refine zR_icmp_ge (tgt := 77) d_Mo_command_70 (by decide) (fun h1 => ?_) (fun h1 => ?_)
  · replace h := h.1 h1
    refine zR_iload_n d_Mo_command_77 rfl rfl ?_
    refine zR_iconst (v := 5) d_Mo_command_78 (by decide) ?_
    refine zR_icmp_gt (tgt := 88) d_Mo_command_79 (by decide) (fun h1 => ?_) (fun h1 => ?_)
    · replace h := h.1 h1
      refine zR_iload_n d_Mo_command_88 rfl rfl ?_
      refine zR_bipush (v := 10) d_Mo_command_89 (by decide) ?_
      refine zR_icmp_ge (tgt := 98) d_Mo_command_91 (by decide) (fun h1 => ?_) (fun h1 => ?_)
      · replace h := h.1 h1
        refine zR_iload_n d_Mo_command_98 rfl rfl ?_
        refine zR_bipush (v := 26) d_Mo_command_99 (by decide) ?_
        refine zR_icmp_ge (tgt := 108) d_Mo_command_101 (by decide) (fun h1 => ?_) (fun h1 => ?_)
        · replace h := h.1 h1
          refine zR_bipush (v := 6) d_Mo_command_108 (by decide) ?_
          exact h
        · replace h := h.2 h1
          refine zR_iconst (v := 5) d_Mo_command_104 (by decide) ?_
          refine zR_goto (tgt := 110) d_Mo_command_105 (by decide) ?_
          exact h
      · replace h := h.2 h1
        refine zR_iconst (v := 4) d_Mo_command_94 (by decide) ?_
        refine zR_goto (tgt := 110) d_Mo_command_95 (by decide) ?_
        exact h
    · replace h := h.2 h1
      refine zR_iload_n d_Mo_command_82 rfl rfl ?_
      refine zR_iconst (v := 2) d_Mo_command_83 (by decide) ?_
      refine zR_isub d_Mo_command_84 ?_
      refine zR_goto (tgt := 110) d_Mo_command_85 (by decide) ?_
      exact h
  · replace h := h.2 h1
    refine zR_iconst (v := 0) d_Mo_command_73 (by decide) ?_
    refine zR_goto (tgt := 110) d_Mo_command_74 (by decide) ?_
    exact h
theorem w_Mo_command_110 {κ : zK} {d : Nat} {mem : zM} {Q : Option zV → zM → Prop} {x1 x2 x3 x4 x5 s1 s2 : Int32}
    (h : vp_in s1 50 ∧ ((¬ x2 = 3 → zR κ (d + 1) Y_Mo_command 145 [some (.inr 68), some (.inl x1), some (.inl x2), some (.inl x3), some (.inl x4), some (.inl x5)] [] (zms mem 78 s1.toNatClampNeg s2) Q) ∧ (x2 = 3 → ((¬ x5 = 0 → zR κ (d + 1) Y_Mo_command 145 [some (.inr 68), some (.inl x1), some (.inl x2), some (.inl x3), some (.inl x4), some (.inl x5)] [] (zms mem 78 s1.toNatClampNeg s2) Q) ∧ (x5 = 0 → ((¬ x3 = (mem 75 0) → zR κ (d + 1) Y_Mo_command 145 [some (.inr 68), some (.inl x1), some (.inl x2), some (.inl x3), some (.inl x4), some (.inl x5)] [] (zms mem 78 s1.toNatClampNeg s2) Q) ∧ (x3 = (mem 75 0) → vp_in (mem 68 15) 50 ∧ Q none (zms (zms (zms mem 78 s1.toNatClampNeg s2) 78 (mem 68 15).toNatClampNeg 7) 68 15 ((mem 68 15) + 1))))))))) : zR κ (d + 1) Y_Mo_command 110 [some (.inr 68), some (.inl x1), some (.inl x2), some (.inl x3), some (.inl x4), some (.inl x5)] [.inl s2, .inl s1, .inr 78] mem Q := by
  refine zR_iastore d_Mo_command_110 sh_78 h.1 rfl ?_
  replace h := h.2
  refine zR_iload_n d_Mo_command_111 rfl rfl ?_
  refine zR_iconst (v := 3) d_Mo_command_112 (by decide) ?_
  refine zR_icmp_ne (tgt := 145) d_Mo_command_113 (by decide) (fun h1 => ?_) (fun h1 => ?_)
  · replace h := h.1 h1
    exact h
  · replace h := h.2 h1
    refine zR_iload d_Mo_command_116 rfl ?_
    refine zR_if_ne (tgt := 145) d_Mo_command_118 (by decide) (fun h1 => ?_) (fun h1 => ?_)
    · replace h := h.1 h1
      exact h
    · replace h := h.2 h1
      refine zR_iload_n d_Mo_command_121 rfl rfl ?_
      refine zR_aload_n d_Mo_command_122 rfl rfl ?_
      refine zR_getR (j := 13) d_Mo_command_123 sh_68 cl_Mo rfl (by decide) g_238 ?_
      refine zR_iconst (v := 0) d_Mo_command_126 (by decide) ?_
      refine zR_iaload (j := 0) d_Mo_command_127 sh_75 (vp_in_nI (n := 0) (by decide) (by decide)) (by decide) ?_
      refine zR_icmp_ne (tgt := 145) d_Mo_command_128 (by decide) (fun h1 => ?_) (fun h1 => ?_)
      · replace h := h.1 h1
        exact h
      · replace h := h.2 h1
        refine zR_aload_n d_Mo_command_131 rfl rfl ?_
        refine zR_getR (j := 17) d_Mo_command_132 sh_68 cl_Mo rfl (by decide) g_247 ?_
        refine zR_aload_n d_Mo_command_135 rfl rfl ?_
        refine zR_getI (j := 15) d_Mo_command_136 sh_68 cl_Mo rfl (by decide) g_240 ?_
        refine zR_bipush (v := 7) d_Mo_command_139 (by decide) ?_
        refine zR_iastore d_Mo_command_141 sh_78 h.1 rfl ?_
        replace h := h.2
        refine zR_goto (tgt := 186) d_Mo_command_142 (by decide) ?_
        refine zR_aload_n d_Mo_command_186 rfl rfl ?_
        refine zR_dup d_Mo_command_187 ?_
        refine zR_getI (j := 15) d_Mo_command_188 sh_68 cl_Mo rfl (by decide) g_240 ?_
        refine zR_iconst (v := 1) d_Mo_command_191 (by decide) ?_
        refine zR_iadd d_Mo_command_192 ?_
        refine zR_put (j := 15) (ty := .int) d_Mo_command_193 sh_68 cl_Mo rfl (by decide) rfl (by decide +kernel) g_240 (zint _) ?_
        exact zR_return rfl d_Mo_command_196 h
theorem w_Mo_command_145 {κ : zK} {d : Nat} {mem : zM} {Q : Option zV → zM → Prop} {x1 x2 x3 x4 x5 : Int32}
    (h : ((x2 ≤ 0 → Q none (zms mem 68 15 ((mem 68 15) + 1))) ∧ (¬ x2 ≤ 0 → ((¬ x5 = 0 → zR κ (d + 1) Y_Mo_command 161 [some (.inr 68), some (.inl x1), some (.inl x2), some (.inl x3), some (.inl x4), some (.inl x5)] [.inl 0, .inl x3, .inr 68] mem Q) ∧ (x5 = 0 → zR κ (d + 1) Y_Mo_command 161 [some (.inr 68), some (.inl x1), some (.inl x2), some (.inl x3), some (.inl x4), some (.inl x5)] [.inl 1, .inl x3, .inr 68] mem Q))))) : zR κ (d + 1) Y_Mo_command 145 [some (.inr 68), some (.inl x1), some (.inl x2), some (.inl x3), some (.inl x4), some (.inl x5)] [] mem Q := by
  refine zR_iload_n d_Mo_command_145 rfl rfl ?_
  refine zR_if_le (tgt := 186) d_Mo_command_146 (by decide) (fun h1 => ?_) (fun h1 => ?_)
  · replace h := h.1 h1
    refine zR_aload_n d_Mo_command_186 rfl rfl ?_
    refine zR_dup d_Mo_command_187 ?_
    refine zR_getI (j := 15) d_Mo_command_188 sh_68 cl_Mo rfl (by decide) g_240 ?_
    refine zR_iconst (v := 1) d_Mo_command_191 (by decide) ?_
    refine zR_iadd d_Mo_command_192 ?_
    refine zR_put (j := 15) (ty := .int) d_Mo_command_193 sh_68 cl_Mo rfl (by decide) rfl (by decide +kernel) g_240 (zint _) ?_
    exact zR_return rfl d_Mo_command_196 h
  · replace h := h.2 h1
    refine zR_aload_n d_Mo_command_149 rfl rfl ?_
    refine zR_iload_n d_Mo_command_150 rfl rfl ?_
    refine zR_iload d_Mo_command_151 rfl ?_
    refine zR_if_ne (tgt := 160) d_Mo_command_153 (by decide) (fun h1 => ?_) (fun h1 => ?_)
    · replace h := h.1 h1
      refine zR_iconst (v := 0) d_Mo_command_160 (by decide) ?_
      exact h
    · replace h := h.2 h1
      refine zR_iconst (v := 1) d_Mo_command_156 (by decide) ?_
      refine zR_goto (tgt := 161) d_Mo_command_157 (by decide) ?_
      exact h
theorem w_Mo_command_161 {κ : zK} {d : Nat} {mem : zM} {Q : Option zV → zM → Prop} {x1 x2 x3 x4 x5 s1 s2 : Int32}
    (h : zR κ d Y_Mo_distance 0 [some (.inr 68), some (.inl s1), some (.inl s2), none, none] [] mem (fun r m1 => r = none ∧ ((¬ x5 = 0 → Q none (zms m1 68 15 ((m1 68 15) + 1))) ∧ (x5 = 0 → vp_in (m1 68 15) 50 ∧ (((m1 80 (m1 68 15).toNatClampNeg) = 0 → Q none (zms m1 68 15 ((m1 68 15) + 1))) ∧ (¬ (m1 80 (m1 68 15).toNatClampNeg) = 0 → zR κ d Y_Mo_remember 0 [some (.inr 68), some (.inl x3)] [] m1 (fun r m2 => r = none ∧ Q none (zms m2 68 15 ((m2 68 15) + 1))))))))) : zR κ (d + 1) Y_Mo_command 161 [some (.inr 68), some (.inl x1), some (.inl x2), some (.inl x3), some (.inl x4), some (.inl x5)] [.inl s2, .inl s1, .inr 68] mem Q := by
  refine zR_callV (Y' := Y_Mo_distance) (n := 2) (A := [.inl s1, .inl s2]) (b := 68) (S := []) v_Mo_distance g_248 sh_68 cl_Mo rfl d_Mo_command_161 rfl (Nat.le_of_ble_eq_true rfl) rfl (zR_cons ?_ h)
  rintro r_ m1 ⟨rfl, h⟩
  show zR κ (d + 1) Y_Mo_command 164 [some (.inr 68), some (.inl x1), some (.inl x2), some (.inl x3), some (.inl x4), some (.inl x5)] [] m1 Q
  refine zR_iload d_Mo_command_164 rfl ?_
  refine zR_if_ne (tgt := 186) d_Mo_command_166 (by decide) (fun h1 => ?_) (fun h1 => ?_)
  · replace h := h.1 h1
    refine zR_aload_n d_Mo_command_186 rfl rfl ?_
    refine zR_dup d_Mo_command_187 ?_
    refine zR_getI (j := 15) d_Mo_command_188 sh_68 cl_Mo rfl (by decide) g_240 ?_
    refine zR_iconst (v := 1) d_Mo_command_191 (by decide) ?_
    refine zR_iadd d_Mo_command_192 ?_
    refine zR_put (j := 15) (ty := .int) d_Mo_command_193 sh_68 cl_Mo rfl (by decide) rfl (by decide +kernel) g_240 (zint _) ?_
    exact zR_return rfl d_Mo_command_196 h
  · replace h := h.2 h1
    refine zR_aload_n d_Mo_command_169 rfl rfl ?_
    refine zR_getR (j := 19) d_Mo_command_170 sh_68 cl_Mo rfl (by decide) g_241 ?_
    refine zR_aload_n d_Mo_command_173 rfl rfl ?_
    refine zR_getI (j := 15) d_Mo_command_174 sh_68 cl_Mo rfl (by decide) g_240 ?_
    refine zR_iaload d_Mo_command_177 sh_80 h.1 rfl ?_
    replace h := h.2
    refine zR_if_eq (tgt := 186) d_Mo_command_178 (by decide) (fun h1 => ?_) (fun h1 => ?_)
    · replace h := h.1 h1
      refine zR_aload_n d_Mo_command_186 rfl rfl ?_
      refine zR_dup d_Mo_command_187 ?_
      refine zR_getI (j := 15) d_Mo_command_188 sh_68 cl_Mo rfl (by decide) g_240 ?_
      refine zR_iconst (v := 1) d_Mo_command_191 (by decide) ?_
      refine zR_iadd d_Mo_command_192 ?_
      refine zR_put (j := 15) (ty := .int) d_Mo_command_193 sh_68 cl_Mo rfl (by decide) rfl (by decide +kernel) g_240 (zint _) ?_
      exact zR_return rfl d_Mo_command_196 h
    · replace h := h.2 h1
      refine zR_aload_n d_Mo_command_181 rfl rfl ?_
      refine zR_iload_n d_Mo_command_182 rfl rfl ?_
      refine zR_callV (Y' := Y_Mo_remember) (n := 1) (A := [.inl x3]) (b := 68) (S := []) v_Mo_remember g_249 sh_68 cl_Mo rfl d_Mo_command_183 rfl (Nat.le_of_ble_eq_true rfl) rfl (zR_cons ?_ h)
      rintro r_ m2 ⟨rfl, h⟩
      show zR κ (d + 1) Y_Mo_command 186 [some (.inr 68), some (.inl x1), some (.inl x2), some (.inl x3), some (.inl x4), some (.inl x5)] [] m2 Q
      refine zR_aload_n d_Mo_command_186 rfl rfl ?_
      refine zR_dup d_Mo_command_187 ?_
      refine zR_getI (j := 15) d_Mo_command_188 sh_68 cl_Mo rfl (by decide) g_240 ?_
      refine zR_iconst (v := 1) d_Mo_command_191 (by decide) ?_
      refine zR_iadd d_Mo_command_192 ?_
      refine zR_put (j := 15) (ty := .int) d_Mo_command_193 sh_68 cl_Mo rfl (by decide) rfl (by decide +kernel) g_240 (zint _) ?_
      exact zR_return rfl d_Mo_command_196 h
theorem w_Mo_parse_0 {κ : zK} {d : Nat} {mem : zM} {Q : Option zV → zM → Prop} {x1 x2 : Int32}
    (h : zR κ (d + 1) Y_Mo_parse 10 [some (.inr 68), some (.inl x1), some (.inl x2), some (.inl 0), some (.inl x1)] [] (zms mem 68 15 0) Q) : zR κ (d + 1) Y_Mo_parse 0 [some (.inr 68), some (.inl x1), some (.inl x2), none, none] [] mem Q := by
  refine zR_aload_n d_Mo_parse_0 rfl rfl ?_
  refine zR_iconst (v := 0) d_Mo_parse_1 (by decide) ?_
  refine zR_put (j := 15) (ty := .int) d_Mo_parse_2 sh_68 cl_Mo rfl (by decide) rfl (by decide +kernel) g_240 (zint _) ?_
  refine zR_iconst (v := 0) d_Mo_parse_5 (by decide) ?_
  refine zR_istore_n d_Mo_parse_6 rfl (by decide) ?_
  refine zR_iload_n d_Mo_parse_7 rfl rfl ?_
  refine zR_istore d_Mo_parse_8 (by decide) ?_
  exact h
theorem w_Mo_parse_10 {κ : zK} {d : Nat} {mem : zM} {Q : Option zV → zM → Prop} {x1 x2 x3 x4 : Int32}
    (h : ((x2 ≤ x4 → ((x3 ≤ 0 → Q none mem) ∧ (¬ x3 ≤ 0 → zR κ d Y_Mo_command 0 [some (.inr 68), some (.inl x3), some (.inl 0), some (.inl 0), some (.inl 0), some (.inl 0)] [] mem (fun r m1 => r = none ∧ Q none m1)))) ∧ (¬ x2 ≤ x4 → zR κ d Y_Mo_match 0 [some (.inr 68), some (.inl x4), some (.inl x2), none, none] [] mem (fun r m2 => r = none ∧ zR κ d Y_Mo_seek 0 [some (.inr 68), some (.inl x4), some (.inl x2), none, none] [] m2 (fun r m3 => r = none ∧ (((m3 68 25) < 4 → zR κ (d + 1) Y_Mo_parse 86 [some (.inr 68), some (.inl x1), some (.inl x2), some (.inl x3), some (.inl x4)] [] m3 Q) ∧ (¬ (m3 68 25) < 4 → (((m3 68 25) ≤ (m3 68 23) → zR κ (d + 1) Y_Mo_parse 86 [some (.inr 68), some (.inl x1), some (.inl x2), some (.inl x3), some (.inl x4)] [] m3 Q) ∧ (¬ (m3 68 25) ≤ (m3 68 23) → zR κ d Y_Mo_command 0 [some (.inr 68), some (.inl x3), some (.inl (m3 68 26)), some (.inl ((x4 + 1) + (m3 68 27))), some (.inl (m3 68 25)), some (.inl 1)] [] m3 (fun r m4 => r = none ∧ zR κ (d + 1) Y_Mo_parse 10 [some (.inr 68), some (.inl x1), some (.inl x2), some (.inl 0), some (.inl (x4 + (m4 68 25)))] [] m4 Q)))))))))) : zR κ (d + 1) Y_Mo_parse 10 [some (.inr 68), some (.inl x1), some (.inl x2), some (.inl x3), some (.inl x4)] [] mem Q := by
  refine zR_iload d_Mo_parse_10 rfl ?_
  refine zR_iload_n d_Mo_parse_12 rfl rfl ?_
  refine zR_icmp_ge (tgt := 135) d_Mo_parse_13 (by decide) (fun h1 => ?_) (fun h1 => ?_)
  · replace h := h.1 h1
    refine zR_iload_n d_Mo_parse_135 rfl rfl ?_
    refine zR_if_le (tgt := 148) d_Mo_parse_136 (by decide) (fun h1 => ?_) (fun h1 => ?_)
    · replace h := h.1 h1
      exact zR_return rfl d_Mo_parse_148 h
    · replace h := h.2 h1
      refine zR_aload_n d_Mo_parse_139 rfl rfl ?_
      refine zR_iload_n d_Mo_parse_140 rfl rfl ?_
      refine zR_iconst (v := 0) d_Mo_parse_141 (by decide) ?_
      refine zR_iconst (v := 0) d_Mo_parse_142 (by decide) ?_
      refine zR_iconst (v := 0) d_Mo_parse_143 (by decide) ?_
      refine zR_iconst (v := 0) d_Mo_parse_144 (by decide) ?_
      refine zR_callV (Y' := Y_Mo_command) (n := 5) (A := [.inl x3, .inl 0, .inl 0, .inl 0, .inl 0]) (b := 68) (S := []) v_Mo_command g_250 sh_68 cl_Mo rfl d_Mo_parse_145 rfl (Nat.le_of_ble_eq_true rfl) rfl (zR_cons ?_ h)
      rintro r_ m1 ⟨rfl, h⟩
      show zR κ (d + 1) Y_Mo_parse 148 [some (.inr 68), some (.inl x1), some (.inl x2), some (.inl x3), some (.inl x4)] [] m1 Q
      exact zR_return rfl d_Mo_parse_148 h
  · replace h := h.2 h1
    refine zR_aload_n d_Mo_parse_16 rfl rfl ?_
    refine zR_iload d_Mo_parse_17 rfl ?_
    refine zR_iload_n d_Mo_parse_19 rfl rfl ?_
    refine zR_callV (Y' := Y_Mo_match) (n := 2) (A := [.inl x4, .inl x2]) (b := 68) (S := []) v_Mo_match g_251 sh_68 cl_Mo rfl d_Mo_parse_20 rfl (Nat.le_of_ble_eq_true rfl) rfl (zR_cons ?_ h)
    rintro r_ m2 ⟨rfl, h⟩
    show zR κ (d + 1) Y_Mo_parse 23 [some (.inr 68), some (.inl x1), some (.inl x2), some (.inl x3), some (.inl x4)] [] m2 Q
    refine zR_aload_n d_Mo_parse_23 rfl rfl ?_
    refine zR_iload d_Mo_parse_24 rfl ?_
    refine zR_iload_n d_Mo_parse_26 rfl rfl ?_
    refine zR_callV (Y' := Y_Mo_seek) (n := 2) (A := [.inl x4, .inl x2]) (b := 68) (S := []) v_Mo_seek g_252 sh_68 cl_Mo rfl d_Mo_parse_27 rfl (Nat.le_of_ble_eq_true rfl) rfl (zR_cons ?_ h)
    rintro r_ m3 ⟨rfl, h⟩
    show zR κ (d + 1) Y_Mo_parse 30 [some (.inr 68), some (.inl x1), some (.inl x2), some (.inl x3), some (.inl x4)] [] m3 Q
    refine zR_aload_n d_Mo_parse_30 rfl rfl ?_
    refine zR_getI (j := 25) d_Mo_parse_31 sh_68 cl_Mo rfl (by decide) g_234 ?_
    refine zR_iconst (v := 4) d_Mo_parse_34 (by decide) ?_
    refine zR_icmp_lt (tgt := 86) d_Mo_parse_35 (by decide) (fun h1 => ?_) (fun h1 => ?_)
    · replace h := h.1 h1
      exact h
    · replace h := h.2 h1
      refine zR_aload_n d_Mo_parse_38 rfl rfl ?_
      refine zR_getI (j := 25) d_Mo_parse_39 sh_68 cl_Mo rfl (by decide) g_234 ?_
      refine zR_aload_n d_Mo_parse_42 rfl rfl ?_
      refine zR_getI (j := 23) d_Mo_parse_43 sh_68 cl_Mo rfl (by decide) g_230 ?_
      refine zR_icmp_le (tgt := 86) d_Mo_parse_46 (by decide) (fun h1 => ?_) (fun h1 => ?_)
      · replace h := h.1 h1
        exact h
      · replace h := h.2 h1
        refine zR_aload_n d_Mo_parse_49 rfl rfl ?_
        refine zR_iload_n d_Mo_parse_50 rfl rfl ?_
        refine zR_aload_n d_Mo_parse_51 rfl rfl ?_
        refine zR_getI (j := 26) d_Mo_parse_52 sh_68 cl_Mo rfl (by decide) g_236 ?_
        refine zR_iload d_Mo_parse_55 rfl ?_
        refine zR_iconst (v := 1) d_Mo_parse_57 (by decide) ?_
        refine zR_iadd d_Mo_parse_58 ?_
        refine zR_aload_n d_Mo_parse_59 rfl rfl ?_
        refine zR_getI (j := 27) d_Mo_parse_60 sh_68 cl_Mo rfl (by decide) g_237 ?_
        refine zR_iadd d_Mo_parse_63 ?_
        refine zR_aload_n d_Mo_parse_64 rfl rfl ?_
        refine zR_getI (j := 25) d_Mo_parse_65 sh_68 cl_Mo rfl (by decide) g_234 ?_
        refine zR_iconst (v := 1) d_Mo_parse_68 (by decide) ?_
        refine zR_callV (Y' := Y_Mo_command) (n := 5) (A := [.inl x3, .inl (m3 68 26), .inl ((x4 + 1) + (m3 68 27)), .inl (m3 68 25), .inl 1]) (b := 68) (S := []) v_Mo_command g_250 sh_68 cl_Mo rfl d_Mo_parse_69 rfl (Nat.le_of_ble_eq_true rfl) rfl (zR_cons ?_ h)
        rintro r_ m4 ⟨rfl, h⟩
        show zR κ (d + 1) Y_Mo_parse 72 [some (.inr 68), some (.inl x1), some (.inl x2), some (.inl x3), some (.inl x4)] [] m4 Q
        refine zR_iconst (v := 0) d_Mo_parse_72 (by decide) ?_
        refine zR_istore_n d_Mo_parse_73 rfl (by decide) ?_
        refine zR_iload d_Mo_parse_74 rfl ?_
        refine zR_aload_n d_Mo_parse_76 rfl rfl ?_
        refine zR_getI (j := 25) d_Mo_parse_77 sh_68 cl_Mo rfl (by decide) g_234 ?_
        refine zR_iadd d_Mo_parse_80 ?_
        refine zR_istore d_Mo_parse_81 (by decide) ?_
        refine zR_goto (tgt := 10) d_Mo_parse_83 (by decide) ?_
        exact h
theorem w_Mo_parse_86 {κ : zK} {d : Nat} {mem : zM} {Q : Option zV → zM → Prop} {x1 x2 x3 x4 : Int32}
    (h : (((mem 68 23) < 3 → zR κ (d + 1) Y_Mo_parse 10 [some (.inr 68), some (.inl x1), some (.inl x2), some (.inl (x3 + 1)), some (.inl (x4 + 1))] [] mem Q) ∧ (¬ (mem 68 23) < 3 → zR κ d Y_Mo_command 0 [some (.inr 68), some (.inl x3), some (.inl (mem 68 23)), some (.inl (mem 68 24)), some (.inl (mem 68 23)), some (.inl 0)] [] mem (fun r m1 => r = none ∧ zR κ (d + 1) Y_Mo_parse 10 [some (.inr 68), some (.inl x1), some (.inl x2), some (.inl 0), some (.inl (x4 + (m1 68 23)))] [] m1 Q)))) : zR κ (d + 1) Y_Mo_parse 86 [some (.inr 68), some (.inl x1), some (.inl x2), some (.inl x3), some (.inl x4)] [] mem Q := by
  refine zR_aload_n d_Mo_parse_86 rfl rfl ?_
  refine zR_getI (j := 23) d_Mo_parse_87 sh_68 cl_Mo rfl (by decide) g_230 ?_
  refine zR_iconst (v := 3) d_Mo_parse_90 (by decide) ?_
  refine zR_icmp_lt (tgt := 126) d_Mo_parse_91 (by decide) (fun h1 => ?_) (fun h1 => ?_)
  · replace h := h.1 h1
    refine zR_iinc (v := 1) d_Mo_parse_126 rfl (by decide) (by decide) ?_
    refine zR_iinc (v := 1) d_Mo_parse_129 rfl (by decide) (by decide) ?_
    refine zR_goto (tgt := 10) d_Mo_parse_132 (by decide) ?_
    exact h
  · replace h := h.2 h1
    refine zR_aload_n d_Mo_parse_94 rfl rfl ?_
    refine zR_iload_n d_Mo_parse_95 rfl rfl ?_
    refine zR_aload_n d_Mo_parse_96 rfl rfl ?_
    refine zR_getI (j := 23) d_Mo_parse_97 sh_68 cl_Mo rfl (by decide) g_230 ?_
    refine zR_aload_n d_Mo_parse_100 rfl rfl ?_
    refine zR_getI (j := 24) d_Mo_parse_101 sh_68 cl_Mo rfl (by decide) g_231 ?_
    refine zR_aload_n d_Mo_parse_104 rfl rfl ?_
    refine zR_getI (j := 23) d_Mo_parse_105 sh_68 cl_Mo rfl (by decide) g_230 ?_
    refine zR_iconst (v := 0) d_Mo_parse_108 (by decide) ?_
    refine zR_callV (Y' := Y_Mo_command) (n := 5) (A := [.inl x3, .inl (mem 68 23), .inl (mem 68 24), .inl (mem 68 23), .inl 0]) (b := 68) (S := []) v_Mo_command g_250 sh_68 cl_Mo rfl d_Mo_parse_109 rfl (Nat.le_of_ble_eq_true rfl) rfl (zR_cons ?_ h)
    rintro r_ m1 ⟨rfl, h⟩
    show zR κ (d + 1) Y_Mo_parse 112 [some (.inr 68), some (.inl x1), some (.inl x2), some (.inl x3), some (.inl x4)] [] m1 Q
    refine zR_iconst (v := 0) d_Mo_parse_112 (by decide) ?_
    refine zR_istore_n d_Mo_parse_113 rfl (by decide) ?_
    refine zR_iload d_Mo_parse_114 rfl ?_
    refine zR_aload_n d_Mo_parse_116 rfl rfl ?_
    refine zR_getI (j := 23) d_Mo_parse_117 sh_68 cl_Mo rfl (by decide) g_230 ?_
    refine zR_iadd d_Mo_parse_120 ?_
    refine zR_istore d_Mo_parse_121 (by decide) ?_
    refine zR_goto (tgt := 10) d_Mo_parse_123 (by decide) ?_
    exact h
theorem w_Mo_forget_0 {κ : zK} {d : Nat} {mem : zM} {Q : Option zV → zM → Prop}
    (h : zR κ d Y_Mo_forget 2 [some (.inr 68), some (.inl 0)] [] mem Q) : zR κ d Y_Mo_forget 0 [some (.inr 68), none] [] mem Q := by
  refine zR_iconst (v := 0) d_Mo_forget_0 (by decide) ?_
  refine zR_istore_n d_Mo_forget_1 rfl (by decide) ?_
  exact h
theorem w_Mo_forget_2 {κ : zK} {d : Nat} {mem : zM} {Q : Option zV → zM → Prop} {x1 : Int32}
    (h : ((1024 ≤ x1 → Q none mem) ∧ (¬ 1024 ≤ x1 → vp_in x1 1024 ∧ zR κ d Y_Mo_forget 2 [some (.inr 68), some (.inl (x1 + 1))] [] (zms mem 72 x1.toNatClampNeg 0) Q))) : zR κ d Y_Mo_forget 2 [some (.inr 68), some (.inl x1)] [] mem Q := by
  refine zR_iload_n d_Mo_forget_2 rfl rfl ?_
  refine zR_sipush (v := 1024) d_Mo_forget_3 (by decide) ?_
  refine zR_icmp_ge (tgt := 22) d_Mo_forget_6 (by decide) (fun h1 => ?_) (fun h1 => ?_)
  · replace h := h.1 h1
    exact zR_return rfl d_Mo_forget_22 h
  · replace h := h.2 h1
    refine zR_aload_n d_Mo_forget_9 rfl rfl ?_
    refine zR_getR (j := 10) d_Mo_forget_10 sh_68 cl_Mo rfl (by decide) g_253 ?_
    refine zR_iload_n d_Mo_forget_13 rfl rfl ?_
    refine zR_iconst (v := 0) d_Mo_forget_14 (by decide) ?_
    refine zR_iastore d_Mo_forget_15 sh_72 h.1 rfl ?_
    replace h := h.2
    refine zR_iinc (v := 1) d_Mo_forget_16 rfl (by decide) (by decide) ?_
    refine zR_goto (tgt := 2) d_Mo_forget_19 (by decide) ?_
    exact h
theorem w_Mo_weigh_0 {κ : zK} {d : Nat} {mem : zM} {Q : Option zV → zM → Prop} {x1 x2 : Int32}
    (h : zR κ (d + 1) Y_Mo_weigh 11 [some (.inr 68), some (.inl x1), some (.inl x2), some (.inl 0), some (.inl 0), some (.inl (-1)), some (.inl x1)] [] mem Q) : zR κ (d + 1) Y_Mo_weigh 0 [some (.inr 68), some (.inl x1), some (.inl x2), none, none, none, none] [] mem Q := by
  refine zR_iconst (v := 0) d_Mo_weigh_0 (by decide) ?_
  refine zR_istore_n d_Mo_weigh_1 rfl (by decide) ?_
  refine zR_iconst (v := 0) d_Mo_weigh_2 (by decide) ?_
  refine zR_istore d_Mo_weigh_3 (by decide) ?_
  refine zR_iconst (v := (-1)) d_Mo_weigh_5 (by decide) ?_
  refine zR_istore d_Mo_weigh_6 (by decide) ?_
  refine zR_iload_n d_Mo_weigh_8 rfl rfl ?_
  refine zR_istore d_Mo_weigh_9 (by decide) ?_
  exact h
theorem w_Mo_weigh_11 {κ : zK} {d : Nat} {mem : zM} {Q : Option zV → zM → Prop} {x1 x2 x3 x4 x5 x6 : Int32}
    (h : (((x1 + x2) ≤ x6 → zR κ (d + 1) Y_Mo_weigh 107 [some (.inr 68), some (.inl x1), some (.inl x2), some (.inl x3), some (.inl x4), some (.inl x5), some (.inl x1)] [] mem Q) ∧ (¬ (x1 + x2) ≤ x6 → vp_in x6 1024 ∧ vp_in x6 1024 ∧ (((mem 72 x6.toNatClampNeg) ≤ 0 → zR κ (d + 1) Y_Mo_weigh 44 [some (.inr 68), some (.inl x1), some (.inl x2), some (.inl x3), some (.inl x4), some (.inl x5), some (.inl x6)] [.inl x3] (zms mem 73 x6.toNatClampNeg (-1)) Q) ∧ (¬ (mem 72 x6.toNatClampNeg) ≤ 0 → zR κ (d + 1) Y_Mo_weigh 44 [some (.inr 68), some (.inl x1), some (.inl x2), some (.inl x3), some (.inl x4), some (.inl x5), some (.inl x6)] [.inl (x3 + 1)] (zms mem 73 x6.toNatClampNeg (-1)) Q))))) : zR κ (d + 1) Y_Mo_weigh 11 [some (.inr 68), some (.inl x1), some (.inl x2), some (.inl x3), some (.inl x4), some (.inl x5), some (.inl x6)] [] mem Q := by
  refine zR_iload d_Mo_weigh_11 rfl ?_
  refine zR_iload_n d_Mo_weigh_13 rfl rfl ?_
  refine zR_iload_n d_Mo_weigh_14 rfl rfl ?_
  refine zR_iadd d_Mo_weigh_15 ?_
  refine zR_icmp_ge (tgt := 104) d_Mo_weigh_16 (by decide) (fun h1 => ?_) (fun h1 => ?_)
  · replace h := h.1 h1
    refine zR_iload_n d_Mo_weigh_104 rfl rfl ?_
    refine zR_istore d_Mo_weigh_105 (by decide) ?_
    exact h
  · replace h := h.2 h1
    refine zR_aload_n d_Mo_weigh_19 rfl rfl ?_
    refine zR_getR (j := 11) d_Mo_weigh_20 sh_68 cl_Mo rfl (by decide) g_254 ?_
    refine zR_iload d_Mo_weigh_23 rfl ?_
    refine zR_iconst (v := (-1)) d_Mo_weigh_25 (by decide) ?_
    refine zR_iastore d_Mo_weigh_26 sh_73 h.1 rfl ?_
    replace h := h.2
    refine zR_aload_n d_Mo_weigh_27 rfl rfl ?_
    refine zR_getR (j := 10) d_Mo_weigh_28 sh_68 cl_Mo rfl (by decide) g_253 ?_
    refine zR_iload d_Mo_weigh_31 rfl ?_
    refine zR_iaload d_Mo_weigh_33 sh_72 h.1 rfl ?_
    replace h := h.2
    refine zR_if_le (tgt := 43) d_Mo_weigh_34 (by decide) (fun h1 => ?_) (fun h1 => ?_)
    · replace h := h.1 h1
      refine zR_iload_n d_Mo_weigh_43 rfl rfl ?_
      exact h
    · replace h := h.2 h1
      refine zR_iload_n d_Mo_weigh_37 rfl rfl ?_
      refine zR_iconst (v := 1) d_Mo_weigh_38 (by decide) ?_
      refine zR_iadd d_Mo_weigh_39 ?_
      refine zR_goto (tgt := 44) d_Mo_weigh_40 (by decide) ?_
      exact h
theorem w_Mo_weigh_44 {κ : zK} {d : Nat} {mem : zM} {Q : Option zV → zM → Prop} {x1 x2 x3 x4 x5 x6 s0 : Int32}
    (h : vp_in x6 1024 ∧ vp_in x6 1024 ∧ (((mem 72 x6.toNatClampNeg) ≤ 0 → zR κ (d + 1) Y_Mo_weigh 11 [some (.inr 68), some (.inl x1), some (.inl x2), some (.inl s0), some (.inl (x4 + (mem 72 x6.toNatClampNeg))), some (.inl x5), some (.inl (x6 + 1))] [] mem Q) ∧ (¬ (mem 72 x6.toNatClampNeg) ≤ 0 → ((x5 < 0 → zR κ (d + 1) Y_Mo_weigh 11 [some (.inr 68), some (.inl x1), some (.inl x2), some (.inl s0), some (.inl (x4 + (mem 72 x6.toNatClampNeg))), some (.inl x6), some (.inl (x6 + 1))] [] mem Q) ∧ (¬ x5 < 0 → vp_in x6 1024 ∧ vp_in x5 1024 ∧ (((mem 72 x6.toNatClampNeg) ≤ (mem 72 x5.toNatClampNeg) → zR κ (d + 1) Y_Mo_weigh 11 [some (.inr 68), some (.inl x1), some (.inl x2), some (.inl s0), some (.inl (x4 + (mem 72 x6.toNatClampNeg))), some (.inl x5), some (.inl (x6 + 1))] [] mem Q) ∧ (¬ (mem 72 x6.toNatClampNeg) ≤ (mem 72 x5.toNatClampNeg) → zR κ (d + 1) Y_Mo_weigh 11 [some (.inr 68), some (.inl x1), some (.inl x2), some (.inl s0), some (.inl (x4 + (mem 72 x6.toNatClampNeg))), some (.inl x6), some (.inl (x6 + 1))] [] mem Q))))))) : zR κ (d + 1) Y_Mo_weigh 44 [some (.inr 68), some (.inl x1), some (.inl x2), some (.inl x3), some (.inl x4), some (.inl x5), some (.inl x6)] [.inl s0] mem Q := by
  refine zR_istore_n d_Mo_weigh_44 rfl (by decide) ?_
  refine zR_iload d_Mo_weigh_45 rfl ?_
  refine zR_aload_n d_Mo_weigh_47 rfl rfl ?_
  refine zR_getR (j := 10) d_Mo_weigh_48 sh_68 cl_Mo rfl (by decide) g_253 ?_
  refine zR_iload d_Mo_weigh_51 rfl ?_
  refine zR_iaload d_Mo_weigh_53 sh_72 h.1 rfl ?_
  replace h := h.2
  refine zR_iadd d_Mo_weigh_54 ?_
  refine zR_istore d_Mo_weigh_55 (by decide) ?_
  refine zR_aload_n d_Mo_weigh_57 rfl rfl ?_
  refine zR_getR (j := 10) d_Mo_weigh_58 sh_68 cl_Mo rfl (by decide) g_253 ?_
  refine zR_iload d_Mo_weigh_61 rfl ?_
  refine zR_iaload d_Mo_weigh_63 sh_72 h.1 rfl ?_
  replace h := h.2
  refine zR_if_le (tgt := 94) d_Mo_weigh_64 (by decide) (fun h1 => ?_) (fun h1 => ?_)
  · replace h := h.1 h1
    refine zR_iload d_Mo_weigh_94 rfl ?_
    refine zR_istore d_Mo_weigh_96 (by decide) ?_
    refine zR_iinc (v := 1) d_Mo_weigh_98 rfl (by decide) (by decide) ?_
    refine zR_goto (tgt := 11) d_Mo_weigh_101 (by decide) ?_
    exact h
  · replace h := h.2 h1
    refine zR_iload d_Mo_weigh_67 rfl ?_
    refine zR_if_lt (tgt := 89) d_Mo_weigh_69 (by decide) (fun h1 => ?_) (fun h1 => ?_)
    · replace h := h.1 h1
      refine zR_iload d_Mo_weigh_89 rfl ?_
      refine zR_goto (tgt := 96) d_Mo_weigh_91 (by decide) ?_
      refine zR_istore d_Mo_weigh_96 (by decide) ?_
      refine zR_iinc (v := 1) d_Mo_weigh_98 rfl (by decide) (by decide) ?_
      refine zR_goto (tgt := 11) d_Mo_weigh_101 (by decide) ?_
      exact h
    · replace h := h.2 h1
      refine zR_aload_n d_Mo_weigh_72 rfl rfl ?_
      refine zR_getR (j := 10) d_Mo_weigh_73 sh_68 cl_Mo rfl (by decide) g_253 ?_
      refine zR_iload d_Mo_weigh_76 rfl ?_
      refine zR_iaload d_Mo_weigh_78 sh_72 h.1 rfl ?_
      replace h := h.2
      refine zR_aload_n d_Mo_weigh_79 rfl rfl ?_
      refine zR_getR (j := 10) d_Mo_weigh_80 sh_68 cl_Mo rfl (by decide) g_253 ?_
      refine zR_iload d_Mo_weigh_83 rfl ?_
      refine zR_iaload d_Mo_weigh_85 sh_72 h.1 rfl ?_
      replace h := h.2
      refine zR_icmp_le (tgt := 94) d_Mo_weigh_86 (by decide) (fun h1 => ?_) (fun h1 => ?_)
      · replace h := h.1 h1
        refine zR_iload d_Mo_weigh_94 rfl ?_
        refine zR_istore d_Mo_weigh_96 (by decide) ?_
        refine zR_iinc (v := 1) d_Mo_weigh_98 rfl (by decide) (by decide) ?_
        refine zR_goto (tgt := 11) d_Mo_weigh_101 (by decide) ?_
        exact h
      · replace h := h.2 h1
        refine zR_iload d_Mo_weigh_89 rfl ?_
        refine zR_goto (tgt := 96) d_Mo_weigh_91 (by decide) ?_
        refine zR_istore d_Mo_weigh_96 (by decide) ?_
        refine zR_iinc (v := 1) d_Mo_weigh_98 rfl (by decide) (by decide) ?_
        refine zR_goto (tgt := 11) d_Mo_weigh_101 (by decide) ?_
        exact h
theorem w_Mo_weigh_107 {κ : zK} {d : Nat} {mem : zM} {Q : Option zV → zM → Prop} {x1 x2 x3 x4 x5 x6 : Int32}
    (h : (((x1 + x2) ≤ x6 → ((¬ x3 = 0 → vp_in x1 1024 ∧ zR κ (d + 1) Y_Mo_weigh 188 [some (.inr 68), some (.inl x1), some (.inl x2), some (.inl x3), some (.inl x4), some (.inl x5), some (.inl x6)] [.inl (mem 73 x1.toNatClampNeg), .inl x1, .inr 73] mem Q) ∧ (x3 = 0 → zR κ (d + 1) Y_Mo_weigh 188 [some (.inr 68), some (.inl x1), some (.inl x2), some (.inl x3), some (.inl x4), some (.inl x5), some (.inl x6)] [.inl 0, .inl x1, .inr 73] mem Q))) ∧ (¬ (x1 + x2) ≤ x6 → vp_in x6 1024 ∧ (((mem 72 x6.toNatClampNeg) ≤ 0 → zR κ (d + 1) Y_Mo_weigh 107 [some (.inr 68), some (.inl x1), some (.inl x2), some (.inl x3), some (.inl x4), some (.inl x5), some (.inl (x6 + 1))] [] mem Q) ∧ (¬ (mem 72 x6.toNatClampNeg) ≤ 0 → ((¬ x3 = 1 → ((x3 = 2 → vp_in x6 1024 ∧ zR κ (d + 1) Y_Mo_weigh 107 [some (.inr 68), some (.inl x1), some (.inl x2), some (.inl x3), some (.inl x4), some (.inl x5), some (.inl (x6 + 1))] [] (zms mem 73 x6.toNatClampNeg 1) Q) ∧ (¬ x3 = 2 → ((¬ x3 = 3 → vp_in x6 1024 ∧ zR κ (d + 1) Y_Mo_weigh 107 [some (.inr 68), some (.inl x1), some (.inl x2), some (.inl x3), some (.inl x4), some (.inl x5), some (.inl (x6 + 1))] [] (zms mem 73 x6.toNatClampNeg 2) Q) ∧ (x3 = 3 → ((¬ x6 = x5 → vp_in x6 1024 ∧ zR κ (d + 1) Y_Mo_weigh 107 [some (.inr 68), some (.inl x1), some (.inl x2), some (.inl x3), some (.inl x4), some (.inl x5), some (.inl (x6 + 1))] [] (zms mem 73 x6.toNatClampNeg 2) Q) ∧ (x6 = x5 → vp_in x6 1024 ∧ zR κ (d + 1) Y_Mo_weigh 107 [some (.inr 68), some (.inl x1), some (.inl x2), some (.inl x3), some (.inl x4), some (.inl x5), some (.inl (x6 + 1))] [] (zms mem 73 x6.toNatClampNeg 1) Q))))))) ∧ (x3 = 1 → vp_in x6 1024 ∧ zR κ (d + 1) Y_Mo_weigh 107 [some (.inr 68), some (.inl x1), some (.inl x2), some (.inl x3), some (.inl x4), some (.inl x5), some (.inl (x6 + 1))] [] (zms mem 73 x6.toNatClampNeg 0) Q))))))) : zR κ (d + 1) Y_Mo_weigh 107 [some (.inr 68), some (.inl x1), some (.inl x2), some (.inl x3), some (.inl x4), some (.inl x5), some (.inl x6)] [] mem Q := by
  refine zR_iload d_Mo_weigh_107 rfl ?_
  refine zR_iload_n d_Mo_weigh_109 rfl rfl ?_
  refine zR_iload_n d_Mo_weigh_110 rfl rfl ?_
  refine zR_iadd d_Mo_weigh_111 ?_
  refine zR_icmp_ge (tgt := 169) d_Mo_weigh_112 (by decide) (fun h1 => ?_) (fun h1 => ?_)
  · replace h := h.1 h1
    refine zR_aload_n d_Mo_weigh_169 rfl rfl ?_
    refine zR_getR (j := 11) d_Mo_weigh_170 sh_68 cl_Mo rfl (by decide) g_254 ?_
    refine zR_iload_n d_Mo_weigh_173 rfl rfl ?_
    refine zR_iload_n d_Mo_weigh_174 rfl rfl ?_
    refine zR_if_ne (tgt := 182) d_Mo_weigh_175 (by decide) (fun h1 => ?_) (fun h1 => ?_)
    · replace h := h.1 h1
      refine zR_aload_n d_Mo_weigh_182 rfl rfl ?_
      refine zR_getR (j := 11) d_Mo_weigh_183 sh_68 cl_Mo rfl (by decide) g_254 ?_
      refine zR_iload_n d_Mo_weigh_186 rfl rfl ?_
      refine zR_iaload d_Mo_weigh_187 sh_73 h.1 rfl ?_
      replace h := h.2
      exact h
    · replace h := h.2 h1
      refine zR_iconst (v := 0) d_Mo_weigh_178 (by decide) ?_
      refine zR_goto (tgt := 188) d_Mo_weigh_179 (by decide) ?_
      exact h
  · replace h := h.2 h1
    refine zR_aload_n d_Mo_weigh_115 rfl rfl ?_
    refine zR_getR (j := 10) d_Mo_weigh_116 sh_68 cl_Mo rfl (by decide) g_253 ?_
    refine zR_iload d_Mo_weigh_119 rfl ?_
    refine zR_iaload d_Mo_weigh_121 sh_72 h.1 rfl ?_
    replace h := h.2
    refine zR_if_le (tgt := 163) d_Mo_weigh_122 (by decide) (fun h1 => ?_) (fun h1 => ?_)
    · replace h := h.1 h1
      refine zR_iinc (v := 1) d_Mo_weigh_163 rfl (by decide) (by decide) ?_
      refine zR_goto (tgt := 107) d_Mo_weigh_166 (by decide) ?_
      exact h
    · replace h := h.2 h1
      refine zR_aload_n d_Mo_weigh_125 rfl rfl ?_
      refine zR_getR (j := 11) d_Mo_weigh_126 sh_68 cl_Mo rfl (by decide) g_254 ?_
      refine zR_iload d_Mo_weigh_129 rfl ?_
      refine zR_iload_n d_Mo_weigh_131 rfl rfl ?_
      refine zR_iconst (v := 1) d_Mo_weigh_132 (by decide) ?_
      refine zR_icmp_ne (tgt := 140) d_Mo_weigh_133 (by decide) (fun h1 => ?_) (fun h1 => ?_)
      · replace h := h.1 h1
        refine zR_iload_n d_Mo_weigh_140 rfl rfl ?_
        refine zR_iconst (v := 2) d_Mo_weigh_141 (by decide) ?_
        refine zR_icmp_eq (tgt := 157) d_Mo_weigh_142 (by decide) (fun h1 => ?_) (fun h1 => ?_)
        · replace h := h.1 h1
          refine zR_iconst (v := 1) d_Mo_weigh_157 (by decide) ?_
          refine zR_goto (tgt := 162) d_Mo_weigh_158 (by decide) ?_
          refine zR_iastore d_Mo_weigh_162 sh_73 h.1 rfl ?_
          replace h := h.2
          refine zR_iinc (v := 1) d_Mo_weigh_163 rfl (by decide) (by decide) ?_
          refine zR_goto (tgt := 107) d_Mo_weigh_166 (by decide) ?_
          exact h
        · replace h := h.2 h1
          refine zR_iload_n d_Mo_weigh_145 rfl rfl ?_
          refine zR_iconst (v := 3) d_Mo_weigh_146 (by decide) ?_
          refine zR_icmp_ne (tgt := 161) d_Mo_weigh_147 (by decide) (fun h1 => ?_) (fun h1 => ?_)
          · replace h := h.1 h1
            refine zR_iconst (v := 2) d_Mo_weigh_161 (by decide) ?_
            refine zR_iastore d_Mo_weigh_162 sh_73 h.1 rfl ?_
            replace h := h.2
            refine zR_iinc (v := 1) d_Mo_weigh_163 rfl (by decide) (by decide) ?_
            refine zR_goto (tgt := 107) d_Mo_weigh_166 (by decide) ?_
            exact h
          · replace h := h.2 h1
            refine zR_iload d_Mo_weigh_150 rfl ?_
            refine zR_iload d_Mo_weigh_152 rfl ?_
            refine zR_icmp_ne (tgt := 161) d_Mo_weigh_154 (by decide) (fun h1 => ?_) (fun h1 => ?_)
            · replace h := h.1 h1
              refine zR_iconst (v := 2) d_Mo_weigh_161 (by decide) ?_
              refine zR_iastore d_Mo_weigh_162 sh_73 h.1 rfl ?_
              replace h := h.2
              refine zR_iinc (v := 1) d_Mo_weigh_163 rfl (by decide) (by decide) ?_
              refine zR_goto (tgt := 107) d_Mo_weigh_166 (by decide) ?_
              exact h
            · replace h := h.2 h1
              refine zR_iconst (v := 1) d_Mo_weigh_157 (by decide) ?_
              refine zR_goto (tgt := 162) d_Mo_weigh_158 (by decide) ?_
              refine zR_iastore d_Mo_weigh_162 sh_73 h.1 rfl ?_
              replace h := h.2
              refine zR_iinc (v := 1) d_Mo_weigh_163 rfl (by decide) (by decide) ?_
              refine zR_goto (tgt := 107) d_Mo_weigh_166 (by decide) ?_
              exact h
      · replace h := h.2 h1
        refine zR_iconst (v := 0) d_Mo_weigh_136 (by decide) ?_
        refine zR_goto (tgt := 162) d_Mo_weigh_137 (by decide) ?_
        refine zR_iastore d_Mo_weigh_162 sh_73 h.1 rfl ?_
        replace h := h.2
        refine zR_iinc (v := 1) d_Mo_weigh_163 rfl (by decide) (by decide) ?_
        refine zR_goto (tgt := 107) d_Mo_weigh_166 (by decide) ?_
        exact h
theorem w_Mo_weigh_188 {κ : zK} {d : Nat} {mem : zM} {Q : Option zV → zM → Prop} {x1 x2 x3 x4 x5 x6 s1 s2 : Int32}
    (h : vp_in s1 1024 ∧ ((x3 < 5 → Q (some (.inl x3)) (zms mem 73 s1.toNatClampNeg s2)) ∧ (¬ x3 < 5 → zR κ d Y_Mo_share 0 [some (.inr 68), some (.inl x1), some (.inl x2), some (.inl x4), none, none, none, none, none] [] (zms mem 73 s1.toNatClampNeg s2) (fun r m1 => r = none ∧ Q (some (.inl x3)) m1)))) : zR κ (d + 1) Y_Mo_weigh 188 [some (.inr 68), some (.inl x1), some (.inl x2), some (.inl x3), some (.inl x4), some (.inl x5), some (.inl x6)] [.inl s2, .inl s1, .inr 73] mem Q := by
  refine zR_iastore d_Mo_weigh_188 sh_73 h.1 rfl ?_
  replace h := h.2
  refine zR_iload_n d_Mo_weigh_189 rfl rfl ?_
  refine zR_iconst (v := 5) d_Mo_weigh_190 (by decide) ?_
  refine zR_icmp_lt (tgt := 202) d_Mo_weigh_191 (by decide) (fun h1 => ?_) (fun h1 => ?_)
  · replace h := h.1 h1
    refine zR_iload_n d_Mo_weigh_202 rfl rfl ?_
    exact zR_ireturn rfl d_Mo_weigh_203 h
  · replace h := h.2 h1
    refine zR_aload_n d_Mo_weigh_194 rfl rfl ?_
    refine zR_iload_n d_Mo_weigh_195 rfl rfl ?_
    refine zR_iload_n d_Mo_weigh_196 rfl rfl ?_
    refine zR_iload d_Mo_weigh_197 rfl ?_
    refine zR_callV (Y' := Y_Mo_share) (n := 3) (A := [.inl x1, .inl x2, .inl x4]) (b := 68) (S := []) v_Mo_share g_255 sh_68 cl_Mo rfl d_Mo_weigh_199 rfl (Nat.le_of_ble_eq_true rfl) rfl (zR_cons ?_ h)
    rintro r_ m1 ⟨rfl, h⟩
    show zR κ (d + 1) Y_Mo_weigh 202 [some (.inr 68), some (.inl x1), some (.inl x2), some (.inl x3), some (.inl x4), some (.inl x5), some (.inl x6)] [] m1 Q
    refine zR_iload_n d_Mo_weigh_202 rfl rfl ?_
    exact zR_ireturn rfl d_Mo_weigh_203 h
theorem w_Mo_share_0 {κ : zK} {d : Nat} {mem : zM} {Q : Option zV → zM → Prop} {x1 x2 x3 : Int32}
    (h : zR κ d Y_Mo_share 7 [some (.inr 68), some (.inl x1), some (.inl x2), some (.inl x3), some (.inl 64), some (.inl x1), none, none, none] [] mem Q) : zR κ d Y_Mo_share 0 [some (.inr 68), some (.inl x1), some (.inl x2), some (.inl x3), none, none, none, none, none] [] mem Q := by
  refine zR_bipush (v := 64) d_Mo_share_0 (by decide) ?_
  refine zR_istore d_Mo_share_2 (by decide) ?_
  refine zR_iload_n d_Mo_share_4 rfl rfl ?_
  refine zR_istore d_Mo_share_5 (by decide) ?_
  exact h
theorem w_Mo_share_7 {κ : zK} {d : Nat} {mem : zM} {Q : Option zV → zM → Prop} {x1 x2 x3 x4 x5 : Int32}
    (h : (((x1 + x2) ≤ x5 → zR κ d Y_Mo_share 76 [some (.inr 68), some (.inl x1), some (.inl x2), some (.inl x3), some (.inl x4), some (.inl 0), none, none, none] [] mem Q) ∧ (¬ (x1 + x2) ≤ x5 → vp_in x5 1024 ∧ (((mem 72 x5.toNatClampNeg) ≤ 0 → zR κ d Y_Mo_share 7 [some (.inr 68), some (.inl x1), some (.inl x2), some (.inl x3), some (.inl x4), some (.inl (x5 + 1)), none, none, none] [] mem Q) ∧ (¬ (mem 72 x5.toNatClampNeg) ≤ 0 → zR κ d Y_Mo_share 28 [some (.inr 68), some (.inl x1), some (.inl x2), some (.inl x3), some (.inl x4), some (.inl x5), some (.inl 1), none, none] [] mem Q))))) : zR κ d Y_Mo_share 7 [some (.inr 68), some (.inl x1), some (.inl x2), some (.inl x3), some (.inl x4), some (.inl x5), none, none, none] [] mem Q := by
  refine zR_iload d_Mo_share_7 rfl ?_
  refine zR_iload_n d_Mo_share_9 rfl rfl ?_
  refine zR_iload_n d_Mo_share_10 rfl rfl ?_
  refine zR_iadd d_Mo_share_11 ?_
  refine zR_icmp_ge (tgt := 73) d_Mo_share_12 (by decide) (fun h1 => ?_) (fun h1 => ?_)
  · replace h := h.1 h1
    refine zR_iconst (v := 0) d_Mo_share_73 (by decide) ?_
    refine zR_istore d_Mo_share_74 (by decide) ?_
    exact h
  · replace h := h.2 h1
    refine zR_aload_n d_Mo_share_15 rfl rfl ?_
    refine zR_getR (j := 10) d_Mo_share_16 sh_68 cl_Mo rfl (by decide) g_253 ?_
    refine zR_iload d_Mo_share_19 rfl ?_
    refine zR_iaload d_Mo_share_21 sh_72 h.1 rfl ?_
    replace h := h.2
    refine zR_if_le (tgt := 67) d_Mo_share_22 (by decide) (fun h1 => ?_) (fun h1 => ?_)
    · replace h := h.1 h1
      refine zR_iinc (v := 1) d_Mo_share_67 rfl (by decide) (by decide) ?_
      refine zR_goto (tgt := 7) d_Mo_share_70 (by decide) ?_
      exact h
    · replace h := h.2 h1
      refine zR_iconst (v := 1) d_Mo_share_25 (by decide) ?_
      refine zR_istore d_Mo_share_26 (by decide) ?_
      exact h
theorem w_Mo_share_28 {κ : zK} {d : Nat} {mem : zM} {Q : Option zV → zM → Prop} {x1 x2 x3 x4 x5 x6 : Int32}
    (h : vp_in x5 1024 ∧ ((x3 ≤ ((mem 72 x5.toNatClampNeg) <<< (x6 &&& 31)) → vp_in x5 1024 ∧ zR κ d Y_Mo_share 7 [some (.inr 68), some (.inl x1), some (.inl x2), some (.inl x3), some (.inl (x4 - ((64 : Int32) >>> (x6 &&& 31)))), some (.inl (x5 + 1)), none, none, none] [] (zms mem 73 x5.toNatClampNeg x6) Q) ∧ (¬ x3 ≤ ((mem 72 x5.toNatClampNeg) <<< (x6 &&& 31)) → zR κ d Y_Mo_share 28 [some (.inr 68), some (.inl x1), some (.inl x2), some (.inl x3), some (.inl x4), some (.inl x5), some (.inl (x6 + 1)), none, none] [] mem Q))) : zR κ d Y_Mo_share 28 [some (.inr 68), some (.inl x1), some (.inl x2), some (.inl x3), some (.inl x4), some (.inl x5), some (.inl x6), none, none] [] mem Q := by
  refine zR_aload_n d_Mo_share_28 rfl rfl ?_
  refine zR_getR (j := 10) d_Mo_share_29 sh_68 cl_Mo rfl (by decide) g_253 ?_
  refine zR_iload d_Mo_share_32 rfl ?_
  refine zR_iaload d_Mo_share_34 sh_72 h.1 rfl ?_
  replace h := h.2
  refine zR_iload d_Mo_share_35 rfl ?_
  refine zR_ishl d_Mo_share_37 rfl ?_
  refine zR_iload_n d_Mo_share_38 rfl rfl ?_
  refine zR_icmp_ge (tgt := 48) d_Mo_share_39 (by decide) (fun h1 => ?_) (fun h1 => ?_)
  · replace h := h.1 h1
    refine zR_aload_n d_Mo_share_48 rfl rfl ?_
    refine zR_getR (j := 11) d_Mo_share_49 sh_68 cl_Mo rfl (by decide) g_254 ?_
    refine zR_iload d_Mo_share_52 rfl ?_
    refine zR_iload d_Mo_share_54 rfl ?_
    refine zR_iastore d_Mo_share_56 sh_73 h.1 rfl ?_
    replace h := h.2
    refine zR_iload d_Mo_share_57 rfl ?_
    refine zR_bipush (v := 64) d_Mo_share_59 (by decide) ?_
    refine zR_iload d_Mo_share_61 rfl ?_
    refine zR_ishr d_Mo_share_63 rfl ?_
    refine zR_isub d_Mo_share_64 ?_
    refine zR_istore d_Mo_share_65 (by decide) ?_
    refine zR_iinc (v := 1) d_Mo_share_67 rfl (by decide) (by decide) ?_
    refine zR_goto (tgt := 7) d_Mo_share_70 (by decide) ?_
    refine zR_drop 6 ?_
    exact h
  · replace h := h.2 h1
    refine zR_iinc (v := 1) d_Mo_share_42 rfl (by decide) (by decide) ?_
    refine zR_goto (tgt := 28) d_Mo_share_45 (by decide) ?_
    exact h
theorem w_Mo_share_76 {κ : zK} {d : Nat} {mem : zM} {Q : Option zV → zM → Prop} {x1 x2 x3 x4 x5 : Int32}
    (h : ((400 ≤ x5 → Q none mem) ∧ (¬ 400 ≤ x5 → ((x4 ≤ 0 → Q none mem) ∧ (¬ x4 ≤ 0 → zR κ d Y_Mo_share 92 [some (.inr 68), some (.inl x1), some (.inl x2), some (.inl x3), some (.inl x4), some (.inl x5), some (.inl x1), none, none] [] mem Q))))) : zR κ d Y_Mo_share 76 [some (.inr 68), some (.inl x1), some (.inl x2), some (.inl x3), some (.inl x4), some (.inl x5), none, none, none] [] mem Q := by
  refine zR_iload d_Mo_share_76 rfl ?_
  refine zR_sipush (v := 400) d_Mo_share_78 (by decide) ?_
  refine zR_icmp_ge (tgt := 169) d_Mo_share_81 (by decide) (fun h1 => ?_) (fun h1 => ?_)
  · replace h := h.1 h1
    exact zR_return rfl d_Mo_share_169 h
  · replace h := h.2 h1
    refine zR_iload d_Mo_share_84 rfl ?_
    refine zR_if_le (tgt := 169) d_Mo_share_86 (by decide) (fun h1 => ?_) (fun h1 => ?_)
    · replace h := h.1 h1
      exact zR_return rfl d_Mo_share_169 h
    · replace h := h.2 h1
      refine zR_iload_n d_Mo_share_89 rfl rfl ?_
      refine zR_istore d_Mo_share_90 (by decide) ?_
      exact h
theorem w_Mo_share_92 {κ : zK} {d : Nat} {mem : zM} {Q : Option zV → zM → Prop} {x1 x2 x3 x4 x5 x6 : Int32}
    (h : (((x1 + x2) ≤ x6 → zR κ d Y_Mo_share 76 [some (.inr 68), some (.inl x1), some (.inl x2), some (.inl x3), some (.inl x4), some (.inl (x5 + 1)), none, none, none] [] mem Q) ∧ (¬ (x1 + x2) ≤ x6 → vp_in x6 1024 ∧ (((mem 73 x6.toNatClampNeg) ≤ 1 → zR κ d Y_Mo_share 125 [some (.inr 68), some (.inl x1), some (.inl x2), some (.inl x3), some (.inl x4), some (.inl x5), some (.inl x6), some (.inl (mem 73 x6.toNatClampNeg)), none] [.inl 100] mem Q) ∧ (¬ (mem 73 x6.toNatClampNeg) ≤ 1 → zR κ d Y_Mo_share 125 [some (.inr 68), some (.inl x1), some (.inl x2), some (.inl x3), some (.inl x4), some (.inl x5), some (.inl x6), some (.inl (mem 73 x6.toNatClampNeg)), none] [.inl ((64 : Int32) >>> ((mem 73 x6.toNatClampNeg) &&& 31))] mem Q))))) : zR κ d Y_Mo_share 92 [some (.inr 68), some (.inl x1), some (.inl x2), some (.inl x3), some (.inl x4), some (.inl x5), some (.inl x6), none, none] [] mem Q := by
  refine zR_iload d_Mo_share_92 rfl ?_
  refine zR_iload_n d_Mo_share_94 rfl rfl ?_
  refine zR_iload_n d_Mo_share_95 rfl rfl ?_
  refine zR_iadd d_Mo_share_96 ?_
  refine zR_icmp_ge (tgt := 163) d_Mo_share_97 (by decide) (fun h1 => ?_) (fun h1 => ?_)
  · replace h := h.1 h1
    refine zR_iinc (v := 1) d_Mo_share_163 rfl (by decide) (by decide) ?_
    refine zR_goto (tgt := 76) d_Mo_share_166 (by decide) ?_
    refine zR_drop 6 ?_
    exact h
  · replace h := h.2 h1
    refine zR_aload_n d_Mo_share_100 rfl rfl ?_
    refine zR_getR (j := 11) d_Mo_share_101 sh_68 cl_Mo rfl (by decide) g_254 ?_
    refine zR_iload d_Mo_share_104 rfl ?_
    refine zR_iaload d_Mo_share_106 sh_73 h.1 rfl ?_
    replace h := h.2
    refine zR_istore d_Mo_share_107 (by decide) ?_
    refine zR_iload d_Mo_share_109 rfl ?_
    refine zR_iconst (v := 1) d_Mo_share_111 (by decide) ?_
    refine zR_icmp_le (tgt := 123) d_Mo_share_112 (by decide) (fun h1 => ?_) (fun h1 => ?_)
    · replace h := h.1 h1
      refine zR_bipush (v := 100) d_Mo_share_123 (by decide) ?_
      exact h
    · replace h := h.2 h1
      refine zR_bipush (v := 64) d_Mo_share_115 (by decide) ?_
      refine zR_iload d_Mo_share_117 rfl ?_
      refine zR_ishr d_Mo_share_119 rfl ?_
      refine zR_goto (tgt := 125) d_Mo_share_120 (by decide) ?_
      exact h
theorem w_Mo_share_125 {κ : zK} {d : Nat} {mem : zM} {Q : Option zV → zM → Prop} {x1 x2 x3 x4 x5 x6 x7 s0 : Int32}
    (h : ((x4 ≤ 0 → zR κ d Y_Mo_share 92 [some (.inr 68), some (.inl x1), some (.inl x2), some (.inl x3), some (.inl x4), some (.inl x5), some (.inl (x6 + 1)), none, none] [] mem Q) ∧ (¬ x4 ≤ 0 → ((x4 < s0 → zR κ d Y_Mo_share 92 [some (.inr 68), some (.inl x1), some (.inl x2), some (.inl x3), some (.inl x4), some (.inl x5), some (.inl (x6 + 1)), none, none] [] mem Q) ∧ (¬ x4 < s0 → vp_in x6 1024 ∧ zR κ d Y_Mo_share 92 [some (.inr 68), some (.inl x1), some (.inl x2), some (.inl x3), some (.inl (x4 - s0)), some (.inl x5), some (.inl (x6 + 1)), none, none] [] (zms mem 73 x6.toNatClampNeg (x7 - 1)) Q))))) : zR κ d Y_Mo_share 125 [some (.inr 68), some (.inl x1), some (.inl x2), some (.inl x3), some (.inl x4), some (.inl x5), some (.inl x6), some (.inl x7), none] [.inl s0] mem Q := by
  refine zR_istore d_Mo_share_125 (by decide) ?_
  refine zR_iload d_Mo_share_127 rfl ?_
  refine zR_if_le (tgt := 157) d_Mo_share_129 (by decide) (fun h1 => ?_) (fun h1 => ?_)
  · replace h := h.1 h1
    refine zR_iinc (v := 1) d_Mo_share_157 rfl (by decide) (by decide) ?_
    refine zR_goto (tgt := 92) d_Mo_share_160 (by decide) ?_
    refine zR_drop 7 ?_
    refine zR_drop 8 ?_
    exact h
  · replace h := h.2 h1
    refine zR_iload d_Mo_share_132 rfl ?_
    refine zR_iload d_Mo_share_134 rfl ?_
    refine zR_icmp_gt (tgt := 157) d_Mo_share_136 (by decide) (fun h1 => ?_) (fun h1 => ?_)
    · replace h := h.1 h1
      refine zR_iinc (v := 1) d_Mo_share_157 rfl (by decide) (by decide) ?_
      refine zR_goto (tgt := 92) d_Mo_share_160 (by decide) ?_
      refine zR_drop 7 ?_
      refine zR_drop 8 ?_
      exact h
    · replace h := h.2 h1
      refine zR_aload_n d_Mo_share_139 rfl rfl ?_
      refine zR_getR (j := 11) d_Mo_share_140 sh_68 cl_Mo rfl (by decide) g_254 ?_
      refine zR_iload d_Mo_share_143 rfl ?_
      refine zR_iload d_Mo_share_145 rfl ?_
      refine zR_iconst (v := 1) d_Mo_share_147 (by decide) ?_
      refine zR_isub d_Mo_share_148 ?_
      refine zR_iastore d_Mo_share_149 sh_73 h.1 rfl ?_
      replace h := h.2
      refine zR_iload d_Mo_share_150 rfl ?_
      refine zR_iload d_Mo_share_152 rfl ?_
      refine zR_isub d_Mo_share_154 ?_
      refine zR_istore d_Mo_share_155 (by decide) ?_
      refine zR_iinc (v := 1) d_Mo_share_157 rfl (by decide) (by decide) ?_
      refine zR_goto (tgt := 92) d_Mo_share_160 (by decide) ?_
      refine zR_drop 7 ?_
      refine zR_drop 8 ?_
      exact h
theorem w_Mo_assign_0 {κ : zK} {d : Nat} {mem : zM} {Q : Option zV → zM → Prop} {x1 x2 : Int32}
    (h : zR κ d Y_Mo_assign 11 [some (.inr 68), some (.inl x1), some (.inl x2), some (.inl 0), some (.inl 0), some (.inl 1), some (.inl 0), none] [] mem Q) : zR κ d Y_Mo_assign 0 [some (.inr 68), some (.inl x1), some (.inl x2), none, none, none, none, none] [] mem Q := by
  refine zR_iconst (v := 0) d_Mo_assign_0 (by decide) ?_
  refine zR_istore_n d_Mo_assign_1 rfl (by decide) ?_
  refine zR_iconst (v := 0) d_Mo_assign_2 (by decide) ?_
  refine zR_istore d_Mo_assign_3 (by decide) ?_
  refine zR_iconst (v := 1) d_Mo_assign_5 (by decide) ?_
  refine zR_istore d_Mo_assign_6 (by decide) ?_
  refine zR_iconst (v := 0) d_Mo_assign_8 (by decide) ?_
  refine zR_istore d_Mo_assign_9 (by decide) ?_
  exact h
theorem w_Mo_assign_11 {κ : zK} {d : Nat} {mem : zM} {Q : Option zV → zM → Prop} {x1 x2 x3 x4 x5 x6 : Int32}
    (h : ((6 < x6 → Q none mem) ∧ (¬ 6 < x6 → zR κ d Y_Mo_assign 21 [some (.inr 68), some (.inl x1), some (.inl x2), some (.inl x3), some (.inl x4), some (.inl x5), some (.inl x6), some (.inl x1)] [] mem Q))) : zR κ d Y_Mo_assign 11 [some (.inr 68), some (.inl x1), some (.inl x2), some (.inl x3), some (.inl x4), some (.inl x5), some (.inl x6), none] [] mem Q := by
  refine zR_iload d_Mo_assign_11 rfl ?_
  refine zR_bipush (v := 6) d_Mo_assign_13 (by decide) ?_
  refine zR_icmp_gt (tgt := 87) d_Mo_assign_15 (by decide) (fun h1 => ?_) (fun h1 => ?_)
  · replace h := h.1 h1
    exact zR_return rfl d_Mo_assign_87 h
  · replace h := h.2 h1
    refine zR_iload_n d_Mo_assign_18 rfl rfl ?_
    refine zR_istore d_Mo_assign_19 (by decide) ?_
    exact h
theorem w_Mo_assign_21 {κ : zK} {d : Nat} {mem : zM} {Q : Option zV → zM → Prop} {x1 x2 x3 x4 x5 x6 x7 : Int32}
    (h : (((x1 + x2) ≤ x7 → zR κ d Y_Mo_assign 11 [some (.inr 68), some (.inl x1), some (.inl x2), some (.inl x3), some (.inl x4), some (.inl x5), some (.inl (x6 + 1)), none] [] mem Q) ∧ (¬ (x1 + x2) ≤ x7 → vp_in x7 1024 ∧ ((¬ (mem 73 x7.toNatClampNeg) = x6 → zR κ d Y_Mo_assign 21 [some (.inr 68), some (.inl x1), some (.inl x2), some (.inl x3), some (.inl x4), some (.inl x5), some (.inl x6), some (.inl (x7 + 1))] [] mem Q) ∧ ((mem 73 x7.toNatClampNeg) = x6 → ((x5 = 0 → zR κ d Y_Mo_assign 59 [some (.inr 68), some (.inl x1), some (.inl x2), some (.inl x3), some (.inl x4), some (.inl x5), some (.inl x6), some (.inl x7)] [.inl ((x3 + 1) <<< ((x6 - x4) &&& 31))] mem Q) ∧ (¬ x5 = 0 → zR κ d Y_Mo_assign 59 [some (.inr 68), some (.inl x1), some (.inl x2), some (.inl x3), some (.inl x4), some (.inl x5), some (.inl x6), some (.inl x7)] [.inl 0] mem Q))))))) : zR κ d Y_Mo_assign 21 [some (.inr 68), some (.inl x1), some (.inl x2), some (.inl x3), some (.inl x4), some (.inl x5), some (.inl x6), some (.inl x7)] [] mem Q := by
  refine zR_iload d_Mo_assign_21 rfl ?_
  refine zR_iload_n d_Mo_assign_23 rfl rfl ?_
  refine zR_iload_n d_Mo_assign_24 rfl rfl ?_
  refine zR_iadd d_Mo_assign_25 ?_
  refine zR_icmp_ge (tgt := 81) d_Mo_assign_26 (by decide) (fun h1 => ?_) (fun h1 => ?_)
  · replace h := h.1 h1
    refine zR_iinc (v := 1) d_Mo_assign_81 rfl (by decide) (by decide) ?_
    refine zR_goto (tgt := 11) d_Mo_assign_84 (by decide) ?_
    refine zR_drop 7 ?_
    exact h
  · replace h := h.2 h1
    refine zR_aload_n d_Mo_assign_29 rfl rfl ?_
    refine zR_getR (j := 11) d_Mo_assign_30 sh_68 cl_Mo rfl (by decide) g_254 ?_
    refine zR_iload d_Mo_assign_33 rfl ?_
    refine zR_iaload d_Mo_assign_35 sh_73 h.1 rfl ?_
    replace h := h.2
    refine zR_iload d_Mo_assign_36 rfl ?_
    refine zR_icmp_ne (tgt := 75) d_Mo_assign_38 (by decide) (fun h1 => ?_) (fun h1 => ?_)
    · replace h := h.1 h1
      refine zR_iinc (v := 1) d_Mo_assign_75 rfl (by decide) (by decide) ?_
      refine zR_goto (tgt := 21) d_Mo_assign_78 (by decide) ?_
      exact h
    · replace h := h.2 h1
      refine zR_iload d_Mo_assign_41 rfl ?_
      refine zR_if_eq (tgt := 50) d_Mo_assign_43 (by decide) (fun h1 => ?_) (fun h1 => ?_)
      · replace h := h.1 h1
        refine zR_iload_n d_Mo_assign_50 rfl rfl ?_
        refine zR_iconst (v := 1) d_Mo_assign_51 (by decide) ?_
        refine zR_iadd d_Mo_assign_52 ?_
        refine zR_iload d_Mo_assign_53 rfl ?_
        refine zR_iload d_Mo_assign_55 rfl ?_
        refine zR_isub d_Mo_assign_57 ?_
        refine zR_ishl d_Mo_assign_58 rfl ?_
        exact h
      · replace h := h.2 h1
        refine zR_iconst (v := 0) d_Mo_assign_46 (by decide) ?_
        refine zR_goto (tgt := 59) d_Mo_assign_47 (by decide) ?_
        exact h
theorem w_Mo_assign_59 {κ : zK} {d : Nat} {mem : zM} {Q : Option zV → zM → Prop} {x1 x2 x3 x4 x5 x6 x7 s0 : Int32}
    (h : vp_in x7 1024 ∧ zR κ d Y_Mo_assign 21 [some (.inr 68), some (.inl x1), some (.inl x2), some (.inl s0), some (.inl x6), some (.inl 0), some (.inl x6), some (.inl (x7 + 1))] [] (zms mem 74 x7.toNatClampNeg s0) Q) : zR κ d Y_Mo_assign 59 [some (.inr 68), some (.inl x1), some (.inl x2), some (.inl x3), some (.inl x4), some (.inl x5), some (.inl x6), some (.inl x7)] [.inl s0] mem Q := by
  refine zR_istore_n d_Mo_assign_59 rfl (by decide) ?_
  refine zR_aload_n d_Mo_assign_60 rfl rfl ?_
  refine zR_getR (j := 12) d_Mo_assign_61 sh_68 cl_Mo rfl (by decide) g_256 ?_
  refine zR_iload d_Mo_assign_64 rfl ?_
  refine zR_iload_n d_Mo_assign_66 rfl rfl ?_
  refine zR_iastore d_Mo_assign_67 sh_74 h.1 rfl ?_
  replace h := h.2
  refine zR_iload d_Mo_assign_68 rfl ?_
  refine zR_istore d_Mo_assign_70 (by decide) ?_
  refine zR_iconst (v := 0) d_Mo_assign_72 (by decide) ?_
  refine zR_istore d_Mo_assign_73 (by decide) ?_
  refine zR_iinc (v := 1) d_Mo_assign_75 rfl (by decide) (by decide) ?_
  refine zR_goto (tgt := 21) d_Mo_assign_78 (by decide) ?_
  exact h
theorem w_Mo_number_0 {κ : zK} {d : Nat} {mem : zM} {Q : Option zV → zM → Prop} {x1 x2 : Int32}
    (h : zR κ d Y_Mo_number 2 [some (.inr 68), some (.inl x1), some (.inl x2), some (.inl 0)] [] mem Q) : zR κ d Y_Mo_number 0 [some (.inr 68), some (.inl x1), some (.inl x2), none] [] mem Q := by
  refine zR_iconst (v := 0) d_Mo_number_0 (by decide) ?_
  refine zR_istore_n d_Mo_number_1 rfl (by decide) ?_
  exact h
theorem w_Mo_number_2 {κ : zK} {d : Nat} {mem : zM} {Q : Option zV → zM → Prop} {x1 x2 x3 : Int32}
    (h : ((x2 ≤ x3 → Q none mem) ∧ (¬ x2 ≤ x3 → vp_in (mem 68 8) 4000 ∧ zR κ d Y_Mo_number 2 [some (.inr 68), some (.inl x1), some (.inl x2), some (.inl (x3 + 1))] [] (zms (zms mem 71 (mem 68 8).toNatClampNeg ((x1 >>> (x3 &&& 31)) &&& 1)) 68 8 ((mem 68 8) + 1)) Q))) : zR κ d Y_Mo_number 2 [some (.inr 68), some (.inl x1), some (.inl x2), some (.inl x3)] [] mem Q := by
  refine zR_iload_n d_Mo_number_2 rfl rfl ?_
  refine zR_iload_n d_Mo_number_3 rfl rfl ?_
  refine zR_icmp_ge (tgt := 37) d_Mo_number_4 (by decide) (fun h1 => ?_) (fun h1 => ?_)
  · replace h := h.1 h1
    exact zR_return rfl d_Mo_number_37 h
  · replace h := h.2 h1
    refine zR_aload_n d_Mo_number_7 rfl rfl ?_
    refine zR_getR (j := 9) d_Mo_number_8 sh_68 cl_Mo rfl (by decide) g_257 ?_
    refine zR_aload_n d_Mo_number_11 rfl rfl ?_
    refine zR_getI (j := 8) d_Mo_number_12 sh_68 cl_Mo rfl (by decide) g_258 ?_
    refine zR_iload_n d_Mo_number_15 rfl rfl ?_
    refine zR_iload_n d_Mo_number_16 rfl rfl ?_
    refine zR_ishr d_Mo_number_17 rfl ?_
    refine zR_iconst (v := 1) d_Mo_number_18 (by decide) ?_
    refine zR_iand d_Mo_number_19 ?_
    refine zR_iastore d_Mo_number_20 sh_71 h.1 rfl ?_
    replace h := h.2
    refine zR_aload_n d_Mo_number_21 rfl rfl ?_
    refine zR_dup d_Mo_number_22 ?_
    refine zR_getI (j := 8) d_Mo_number_23 sh_68 cl_Mo rfl (by decide) g_258 ?_
    refine zR_iconst (v := 1) d_Mo_number_26 (by decide) ?_
    refine zR_iadd d_Mo_number_27 ?_
    refine zR_put (j := 8) (ty := .int) d_Mo_number_28 sh_68 cl_Mo rfl (by decide) rfl (by decide +kernel) g_258 (zint _) ?_
    refine zR_iinc (v := 1) d_Mo_number_31 rfl (by decide) (by decide) ?_
    refine zR_goto (tgt := 2) d_Mo_number_34 (by decide) ?_
    exact h
theorem w_Mo_wide_0 {κ : zK} {d : Nat} {mem : zM} {Q : Option zV → zM → Prop} {x0 : Int32}
    (h : ((512 ≤ x0 → ((¬ x0 = 512 → Q (some (.inl 4)) mem) ∧ (x0 = 512 → Q (some (.inl 5)) mem))) ∧ (¬ 512 ≤ x0 → Q (some (.inl 8)) mem))) : zR κ d Y_Mo_wide 0 [some (.inl x0)] [] mem Q := by
  refine zR_iload_n d_Mo_wide_0 rfl rfl ?_
  refine zR_sipush (v := 512) d_Mo_wide_1 (by decide) ?_
  refine zR_icmp_ge (tgt := 12) d_Mo_wide_4 (by decide) (fun h1 => ?_) (fun h1 => ?_)
  · replace h := h.1 h1
    refine zR_iload_n d_Mo_wide_12 rfl rfl ?_
    refine zR_sipush (v := 512) d_Mo_wide_13 (by decide) ?_
    refine zR_icmp_ne (tgt := 23) d_Mo_wide_16 (by decide) (fun h1 => ?_) (fun h1 => ?_)
    · replace h := h.1 h1
      refine zR_iconst (v := 4) d_Mo_wide_23 (by decide) ?_
      exact zR_ireturn rfl d_Mo_wide_24 h
    · replace h := h.2 h1
      refine zR_iconst (v := 5) d_Mo_wide_19 (by decide) ?_
      refine zR_goto (tgt := 24) d_Mo_wide_20 (by decide) ?_
      exact zR_ireturn rfl d_Mo_wide_24 h
  · replace h := h.2 h1
    refine zR_bipush (v := 8) d_Mo_wide_7 (by decide) ?_
    refine zR_goto (tgt := 24) d_Mo_wide_9 (by decide) ?_
    exact zR_ireturn rfl d_Mo_wide_24 h
theorem w_Mo_symbolsOf_0 {κ : zK} {d : Nat} {mem : zM} {Q : Option zV → zM → Prop} {x0 : Int32}
    (h : ((512 ≤ x0 → ((¬ x0 = 512 → Q (some (.inl 14)) mem) ∧ (x0 = 512 → Q (some (.inl 32)) mem))) ∧ (¬ 512 ≤ x0 → Q (some (.inl 256)) mem))) : zR κ d Y_Mo_symbolsOf 0 [some (.inl x0)] [] mem Q := by
  refine zR_iload_n d_Mo_symbolsOf_0 rfl rfl ?_
  refine zR_sipush (v := 512) d_Mo_symbolsOf_1 (by decide) ?_
  refine zR_icmp_ge (tgt := 13) d_Mo_symbolsOf_4 (by decide) (fun h1 => ?_) (fun h1 => ?_)
  · replace h := h.1 h1
    refine zR_iload_n d_Mo_symbolsOf_13 rfl rfl ?_
    refine zR_sipush (v := 512) d_Mo_symbolsOf_14 (by decide) ?_
    refine zR_icmp_ne (tgt := 25) d_Mo_symbolsOf_17 (by decide) (fun h1 => ?_) (fun h1 => ?_)
    · replace h := h.1 h1
      refine zR_bipush (v := 14) d_Mo_symbolsOf_25 (by decide) ?_
      exact zR_ireturn rfl d_Mo_symbolsOf_27 h
    · replace h := h.2 h1
      refine zR_bipush (v := 32) d_Mo_symbolsOf_20 (by decide) ?_
      refine zR_goto (tgt := 27) d_Mo_symbolsOf_22 (by decide) ?_
      exact zR_ireturn rfl d_Mo_symbolsOf_27 h
  · replace h := h.2 h1
    refine zR_sipush (v := 256) d_Mo_symbolsOf_7 (by decide) ?_
    refine zR_goto (tgt := 27) d_Mo_symbolsOf_10 (by decide) ?_
    exact zR_ireturn rfl d_Mo_symbolsOf_27 h
theorem w_Mo_describe_0 {κ : zK} {d : Nat} {mem : zM} {Q : Option zV → zM → Prop} {x1 : Int32}
    (h : zR κ d Y_Mo_symbolsOf 0 [some (.inl x1)] [] mem (fun r m1 => ∃ y2 : Int32, r = some (.inl y2) ∧ zR κ d Y_Mo_weigh 0 [some (.inr 68), some (.inl x1), some (.inl y2), none, none, none, none] [] m1 (fun r m3 => ∃ y4 : Int32, r = some (.inl y4) ∧ zR κ d Y_Mo_assign 0 [some (.inr 68), some (.inl x1), some (.inl y2), none, none, none, none, none] [] m3 (fun r m5 => r = none ∧ ((y4 < 5 → zR κ d Y_Mo_number 0 [some (.inr 68), some (.inl 1), some (.inl 1), none] [] m5 (fun r m6 => r = none ∧ ((¬ y4 = 0 → zR κ (d + 1) Y_Mo_describe 54 [some (.inr 68), some (.inl x1), some (.inl y2), some (.inl y4), none, none, none] [.inl (y4 - 1), .inr 68] m6 Q) ∧ (y4 = 0 → zR κ (d + 1) Y_Mo_describe 54 [some (.inr 68), some (.inl x1), some (.inl y2), some (.inl y4), none, none, none] [.inl 0, .inr 68] m6 Q)))) ∧ (¬ y4 < 5 → zR κ d Y_Mo_number 0 [some (.inr 68), some (.inl 0), some (.inl 1), none] [] m5 (fun r m7 => r = none ∧ zR κ d Y_Mo_full 0 [some (.inr 68), some (.inl x1), some (.inl y2), none, none, none] [] m7 (fun r m8 => r = none ∧ Q none m8)))))))) : zR κ (d + 1) Y_Mo_describe 0 [some (.inr 68), some (.inl x1), none, none, none, none, none] [] mem Q := by
  refine zR_iload_n d_Mo_describe_0 rfl rfl ?_
  refine zR_callS (Y' := Y_Mo_symbolsOf) (n := 1) (A := [.inl x1]) (S := []) v_Mo_symbolsOf g_259 d_Mo_describe_1 rfl (Nat.le_of_ble_eq_true rfl) rfl (zR_cons ?_ h)
  rintro r_ m1 ⟨y2, rfl, h⟩
  show zR κ (d + 1) Y_Mo_describe 4 [some (.inr 68), some (.inl x1), none, none, none, none, none] [.inl y2] m1 Q
  refine zR_istore_n d_Mo_describe_4 rfl (by decide) ?_
  refine zR_aload_n d_Mo_describe_5 rfl rfl ?_
  refine zR_iload_n d_Mo_describe_6 rfl rfl ?_
  refine zR_iload_n d_Mo_describe_7 rfl rfl ?_
  refine zR_callV (Y' := Y_Mo_weigh) (n := 2) (A := [.inl x1, .inl y2]) (b := 68) (S := []) v_Mo_weigh g_260 sh_68 cl_Mo rfl d_Mo_describe_8 rfl (Nat.le_of_ble_eq_true rfl) rfl (zR_cons ?_ h)
  rintro r_ m3 ⟨y4, rfl, h⟩
  show zR κ (d + 1) Y_Mo_describe 11 [some (.inr 68), some (.inl x1), some (.inl y2), none, none, none, none] [.inl y4] m3 Q
  refine zR_istore_n d_Mo_describe_11 rfl (by decide) ?_
  refine zR_aload_n d_Mo_describe_12 rfl rfl ?_
  refine zR_iload_n d_Mo_describe_13 rfl rfl ?_
  refine zR_iload_n d_Mo_describe_14 rfl rfl ?_
  refine zR_callV (Y' := Y_Mo_assign) (n := 2) (A := [.inl x1, .inl y2]) (b := 68) (S := []) v_Mo_assign g_261 sh_68 cl_Mo rfl d_Mo_describe_15 rfl (Nat.le_of_ble_eq_true rfl) rfl (zR_cons ?_ h)
  rintro r_ m5 ⟨rfl, h⟩
  show zR κ (d + 1) Y_Mo_describe 18 [some (.inr 68), some (.inl x1), some (.inl y2), some (.inl y4), none, none, none] [] m5 Q
  refine zR_iload_n d_Mo_describe_18 rfl rfl ?_
  refine zR_iconst (v := 5) d_Mo_describe_19 (by decide) ?_
  refine zR_icmp_lt (tgt := 36) d_Mo_describe_20 (by decide) (fun h1 => ?_) (fun h1 => ?_)
  · replace h := h.1 h1
    refine zR_aload_n d_Mo_describe_36 rfl rfl ?_
    refine zR_iconst (v := 1) d_Mo_describe_37 (by decide) ?_
    refine zR_iconst (v := 1) d_Mo_describe_38 (by decide) ?_
    refine zR_callV (Y' := Y_Mo_number) (n := 2) (A := [.inl 1, .inl 1]) (b := 68) (S := []) v_Mo_number g_262 sh_68 cl_Mo rfl d_Mo_describe_39 rfl (Nat.le_of_ble_eq_true rfl) rfl (zR_cons ?_ h)
    rintro r_ m6 ⟨rfl, h⟩
    show zR κ (d + 1) Y_Mo_describe 42 [some (.inr 68), some (.inl x1), some (.inl y2), some (.inl y4), none, none, none] [] m6 Q
    refine zR_aload_n d_Mo_describe_42 rfl rfl ?_
    refine zR_iload_n d_Mo_describe_43 rfl rfl ?_
    refine zR_if_ne (tgt := 51) d_Mo_describe_44 (by decide) (fun h1 => ?_) (fun h1 => ?_)
    · replace h := h.1 h1
      refine zR_iload_n d_Mo_describe_51 rfl rfl ?_
      refine zR_iconst (v := 1) d_Mo_describe_52 (by decide) ?_
      refine zR_isub d_Mo_describe_53 ?_
      exact h
    · replace h := h.2 h1
      refine zR_iconst (v := 0) d_Mo_describe_47 (by decide) ?_
      refine zR_goto (tgt := 54) d_Mo_describe_48 (by decide) ?_
      exact h
  · replace h := h.2 h1
    refine zR_aload_n d_Mo_describe_23 rfl rfl ?_
    refine zR_iconst (v := 0) d_Mo_describe_24 (by decide) ?_
    refine zR_iconst (v := 1) d_Mo_describe_25 (by decide) ?_
    refine zR_callV (Y' := Y_Mo_number) (n := 2) (A := [.inl 0, .inl 1]) (b := 68) (S := []) v_Mo_number g_262 sh_68 cl_Mo rfl d_Mo_describe_26 rfl (Nat.le_of_ble_eq_true rfl) rfl (zR_cons ?_ h)
    rintro r_ m7 ⟨rfl, h⟩
    show zR κ (d + 1) Y_Mo_describe 29 [some (.inr 68), some (.inl x1), some (.inl y2), some (.inl y4), none, none, none] [] m7 Q
    refine zR_aload_n d_Mo_describe_29 rfl rfl ?_
    refine zR_iload_n d_Mo_describe_30 rfl rfl ?_
    refine zR_iload_n d_Mo_describe_31 rfl rfl ?_
    refine zR_callV (Y' := Y_Mo_full) (n := 2) (A := [.inl x1, .inl y2]) (b := 68) (S := []) v_Mo_full g_263 sh_68 cl_Mo rfl d_Mo_describe_32 rfl (Nat.le_of_ble_eq_true rfl) rfl (zR_cons ?_ h)
    rintro r_ m8 ⟨rfl, h⟩
    show zR κ (d + 1) Y_Mo_describe 35 [some (.inr 68), some (.inl x1), some (.inl y2), some (.inl y4), none, none, none] [] m8 Q
    exact zR_return rfl d_Mo_describe_35 h
theorem w_Mo_describe_54 {κ : zK} {d : Nat} {mem : zM} {Q : Option zV → zM → Prop} {x1 x2 x3 s1 : Int32}
    (h : zR κ d Y_Mo_number 0 [some (.inr 68), some (.inl s1), some (.inl 2), none] [] mem (fun r m1 => r = none ∧ ((¬ x3 = 0 → zR κ (d + 1) Y_Mo_describe 74 [some (.inr 68), some (.inl x1), some (.inl x2), some (.inl x3), some (.inl 0), none, none] [] m1 Q) ∧ (x3 = 0 → zR κ d Y_Mo_wide 0 [some (.inl x1)] [] m1 (fun r m2 => ∃ y3 : Int32, r = some (.inl y3) ∧ zR κ d Y_Mo_number 0 [some (.inr 68), some (.inl 0), some (.inl y3), none] [] m2 (fun r m4 => r = none ∧ zR κ (d + 1) Y_Mo_describe 74 [some (.inr 68), some (.inl x1), some (.inl x2), some (.inl x3), some (.inl 0), none, none] [] m4 Q)))))) : zR κ (d + 1) Y_Mo_describe 54 [some (.inr 68), some (.inl x1), some (.inl x2), some (.inl x3), none, none, none] [.inl s1, .inr 68] mem Q := by
  refine zR_iconst (v := 2) d_Mo_describe_54 (by decide) ?_
  refine zR_callV (Y' := Y_Mo_number) (n := 2) (A := [.inl s1, .inl 2]) (b := 68) (S := []) v_Mo_number g_262 sh_68 cl_Mo rfl d_Mo_describe_55 rfl (Nat.le_of_ble_eq_true rfl) rfl (zR_cons ?_ h)
  rintro r_ m1 ⟨rfl, h⟩
  show zR κ (d + 1) Y_Mo_describe 58 [some (.inr 68), some (.inl x1), some (.inl x2), some (.inl x3), none, none, none] [] m1 Q
  refine zR_iload_n d_Mo_describe_58 rfl rfl ?_
  refine zR_if_ne (tgt := 71) d_Mo_describe_59 (by decide) (fun h1 => ?_) (fun h1 => ?_)
  · replace h := h.1 h1
    refine zR_iconst (v := 0) d_Mo_describe_71 (by decide) ?_
    refine zR_istore d_Mo_describe_72 (by decide) ?_
    exact h
  · replace h := h.2 h1
    refine zR_aload_n d_Mo_describe_62 rfl rfl ?_
    refine zR_iconst (v := 0) d_Mo_describe_63 (by decide) ?_
    refine zR_iload_n d_Mo_describe_64 rfl rfl ?_
    refine zR_callS (Y' := Y_Mo_wide) (n := 1) (A := [.inl x1]) (S := [.inl 0, .inr 68]) v_Mo_wide g_264 d_Mo_describe_65 rfl (Nat.le_of_ble_eq_true rfl) rfl (zR_cons ?_ h)
    rintro r_ m2 ⟨y3, rfl, h⟩
    show zR κ (d + 1) Y_Mo_describe 68 [some (.inr 68), some (.inl x1), some (.inl x2), some (.inl x3), none, none, none] [.inl y3, .inl 0, .inr 68] m2 Q
    refine zR_callV (Y' := Y_Mo_number) (n := 2) (A := [.inl 0, .inl y3]) (b := 68) (S := []) v_Mo_number g_262 sh_68 cl_Mo rfl d_Mo_describe_68 rfl (Nat.le_of_ble_eq_true rfl) rfl (zR_cons ?_ h)
    rintro r_ m4 ⟨rfl, h⟩
    show zR κ (d + 1) Y_Mo_describe 71 [some (.inr 68), some (.inl x1), some (.inl x2), some (.inl x3), none, none, none] [] m4 Q
    refine zR_iconst (v := 0) d_Mo_describe_71 (by decide) ?_
    refine zR_istore d_Mo_describe_72 (by decide) ?_
    exact h
theorem w_Mo_describe_74 {κ : zK} {d : Nat} {mem : zM} {Q : Option zV → zM → Prop} {x1 x2 x3 x4 : Int32}
    (h : ((2 ≤ x4 → Q none mem) ∧ (¬ 2 ≤ x4 → zR κ (d + 1) Y_Mo_describe 83 [some (.inr 68), some (.inl x1), some (.inl x2), some (.inl x3), some (.inl x4), some (.inl x1), none] [] mem Q))) : zR κ (d + 1) Y_Mo_describe 74 [some (.inr 68), some (.inl x1), some (.inl x2), some (.inl x3), some (.inl x4), none, none] [] mem Q := by
  refine zR_iload d_Mo_describe_74 rfl ?_
  refine zR_iconst (v := 2) d_Mo_describe_76 (by decide) ?_
  refine zR_icmp_ge (tgt := 163) d_Mo_describe_77 (by decide) (fun h1 => ?_) (fun h1 => ?_)
  · replace h := h.1 h1
    exact zR_return rfl d_Mo_describe_163 h
  · replace h := h.2 h1
    refine zR_iload_n d_Mo_describe_80 rfl rfl ?_
    refine zR_istore d_Mo_describe_81 (by decide) ?_
    exact h
theorem w_Mo_describe_83 {κ : zK} {d : Nat} {mem : zM} {Q : Option zV → zM → Prop} {x1 x2 x3 x4 x5 : Int32}
    (h : (((x1 + x2) ≤ x5 → zR κ (d + 1) Y_Mo_describe 74 [some (.inr 68), some (.inl x1), some (.inl x2), some (.inl x3), some (.inl (x4 + 1)), none, none] [] mem Q) ∧ (¬ (x1 + x2) ≤ x5 → ((¬ x3 = 3 → zR κ (d + 1) Y_Mo_describe 112 [some (.inr 68), some (.inl x1), some (.inl x2), some (.inl x3), some (.inl x4), some (.inl x5), none] [.inl 0] mem Q) ∧ (x3 = 3 → vp_in x5 1024 ∧ ((¬ (mem 73 x5.toNatClampNeg) = 1 → zR κ (d + 1) Y_Mo_describe 112 [some (.inr 68), some (.inl x1), some (.inl x2), some (.inl x3), some (.inl x4), some (.inl x5), none] [.inl 0] mem Q) ∧ ((mem 73 x5.toNatClampNeg) = 1 → zR κ (d + 1) Y_Mo_describe 112 [some (.inr 68), some (.inl x1), some (.inl x2), some (.inl x3), some (.inl x4), some (.inl x5), none] [.inl 1] mem Q))))))) : zR κ (d + 1) Y_Mo_describe 83 [some (.inr 68), some (.inl x1), some (.inl x2), some (.inl x3), some (.inl x4), some (.inl x5), none] [] mem Q := by
  refine zR_iload d_Mo_describe_83 rfl ?_
  refine zR_iload_n d_Mo_describe_85 rfl rfl ?_
  refine zR_iload_n d_Mo_describe_86 rfl rfl ?_
  refine zR_iadd d_Mo_describe_87 ?_
  refine zR_icmp_ge (tgt := 157) d_Mo_describe_88 (by decide) (fun h1 => ?_) (fun h1 => ?_)
  · replace h := h.1 h1
    refine zR_iinc (v := 1) d_Mo_describe_157 rfl (by decide) (by decide) ?_
    refine zR_goto (tgt := 74) d_Mo_describe_160 (by decide) ?_
    refine zR_drop 5 ?_
    exact h
  · replace h := h.2 h1
    refine zR_iload_n d_Mo_describe_91 rfl rfl ?_
    refine zR_iconst (v := 3) d_Mo_describe_92 (by decide) ?_
    refine zR_icmp_ne (tgt := 111) d_Mo_describe_93 (by decide) (fun h1 => ?_) (fun h1 => ?_)
    · replace h := h.1 h1
      refine zR_iconst (v := 0) d_Mo_describe_111 (by decide) ?_
      exact h
    · replace h := h.2 h1
      refine zR_aload_n d_Mo_describe_96 rfl rfl ?_
      refine zR_getR (j := 11) d_Mo_describe_97 sh_68 cl_Mo rfl (by decide) g_254 ?_
      refine zR_iload d_Mo_describe_100 rfl ?_
      refine zR_iaload d_Mo_describe_102 sh_73 h.1 rfl ?_
      replace h := h.2
      refine zR_iconst (v := 1) d_Mo_describe_103 (by decide) ?_
      refine zR_icmp_ne (tgt := 111) d_Mo_describe_104 (by decide) (fun h1 => ?_) (fun h1 => ?_)
      · replace h := h.1 h1
        refine zR_iconst (v := 0) d_Mo_describe_111 (by decide) ?_
        exact h
      · replace h := h.2 h1
        refine zR_iconst (v := 1) d_Mo_describe_107 (by decide) ?_
        refine zR_goto (tgt := 112) d_Mo_describe_108 (by decide) ?_
        exact h
theorem w_Mo_describe_112 {κ : zK} {d : Nat} {mem : zM} {Q : Option zV → zM → Prop} {x1 x2 x3 x4 x5 s0 : Int32}
    (h : vp_in x5 1024 ∧ (((mem 72 x5.toNatClampNeg) ≤ 0 → zR κ (d + 1) Y_Mo_describe 83 [some (.inr 68), some (.inl x1), some (.inl x2), some (.inl x3), some (.inl x4), some (.inl (x5 + 1)), none] [] mem Q) ∧ (¬ (mem 72 x5.toNatClampNeg) ≤ 0 → ((¬ x4 = 0 → zR κ (d + 1) Y_Mo_describe 136 [some (.inr 68), some (.inl x1), some (.inl x2), some (.inl x3), some (.inl x4), some (.inl x5), some (.inl s0)] [.inl 0, .inl s0] mem Q) ∧ (x4 = 0 → zR κ (d + 1) Y_Mo_describe 136 [some (.inr 68), some (.inl x1), some (.inl x2), some (.inl x3), some (.inl x4), some (.inl x5), some (.inl s0)] [.inl 1, .inl s0] mem Q))))) : zR κ (d + 1) Y_Mo_describe 112 [some (.inr 68), some (.inl x1), some (.inl x2), some (.inl x3), some (.inl x4), some (.inl x5), none] [.inl s0] mem Q := by
  refine zR_istore d_Mo_describe_112 (by decide) ?_
  refine zR_aload_n d_Mo_describe_114 rfl rfl ?_
  refine zR_getR (j := 10) d_Mo_describe_115 sh_68 cl_Mo rfl (by decide) g_253 ?_
  refine zR_iload d_Mo_describe_118 rfl ?_
  refine zR_iaload d_Mo_describe_120 sh_72 h.1 rfl ?_
  replace h := h.2
  refine zR_if_le (tgt := 151) d_Mo_describe_121 (by decide) (fun h1 => ?_) (fun h1 => ?_)
  · replace h := h.1 h1
    refine zR_iinc (v := 1) d_Mo_describe_151 rfl (by decide) (by decide) ?_
    refine zR_goto (tgt := 83) d_Mo_describe_154 (by decide) ?_
    refine zR_drop 6 ?_
    exact h
  · replace h := h.2 h1
    refine zR_iload d_Mo_describe_124 rfl ?_
    refine zR_iload d_Mo_describe_126 rfl ?_
    refine zR_if_ne (tgt := 135) d_Mo_describe_128 (by decide) (fun h1 => ?_) (fun h1 => ?_)
    · replace h := h.1 h1
      refine zR_iconst (v := 0) d_Mo_describe_135 (by decide) ?_
      exact h
    · replace h := h.2 h1
      refine zR_iconst (v := 1) d_Mo_describe_131 (by decide) ?_
      refine zR_goto (tgt := 136) d_Mo_describe_132 (by decide) ?_
      exact h
theorem w_Mo_describe_136 {κ : zK} {d : Nat} {mem : zM} {Q : Option zV → zM → Prop} {x1 x2 x3 x4 x5 x6 s0 s1 : Int32}
    (h : ((¬ s0 = s1 → zR κ (d + 1) Y_Mo_describe 83 [some (.inr 68), some (.inl x1), some (.inl x2), some (.inl x3), some (.inl x4), some (.inl (x5 + 1)), none] [] mem Q) ∧ (s0 = s1 → zR κ d Y_Mo_wide 0 [some (.inl x1)] [] mem (fun r m1 => ∃ y2 : Int32, r = some (.inl y2) ∧ zR κ d Y_Mo_number 0 [some (.inr 68), some (.inl (x5 - x1)), some (.inl y2), none] [] m1 (fun r m3 => r = none ∧ zR κ (d + 1) Y_Mo_describe 83 [some (.inr 68), some (.inl x1), some (.inl x2), some (.inl x3), some (.inl x4), some (.inl (x5 + 1)), none] [] m3 Q))))) : zR κ (d + 1) Y_Mo_describe 136 [some (.inr 68), some (.inl x1), some (.inl x2), some (.inl x3), some (.inl x4), some (.inl x5), some (.inl x6)] [.inl s1, .inl s0] mem Q := by
  refine zR_icmp_ne (tgt := 151) d_Mo_describe_136 (by decide) (fun h1 => ?_) (fun h1 => ?_)
  · replace h := h.1 h1
    refine zR_iinc (v := 1) d_Mo_describe_151 rfl (by decide) (by decide) ?_
    refine zR_goto (tgt := 83) d_Mo_describe_154 (by decide) ?_
    refine zR_drop 6 ?_
    exact h
  · replace h := h.2 h1
    refine zR_aload_n d_Mo_describe_139 rfl rfl ?_
    refine zR_iload d_Mo_describe_140 rfl ?_
    refine zR_iload_n d_Mo_describe_142 rfl rfl ?_
    refine zR_isub d_Mo_describe_143 ?_
    refine zR_iload_n d_Mo_describe_144 rfl rfl ?_
    refine zR_callS (Y' := Y_Mo_wide) (n := 1) (A := [.inl x1]) (S := [.inl (x5 - x1), .inr 68]) v_Mo_wide g_264 d_Mo_describe_145 rfl (Nat.le_of_ble_eq_true rfl) rfl (zR_cons ?_ h)
    rintro r_ m1 ⟨y2, rfl, h⟩
    show zR κ (d + 1) Y_Mo_describe 148 [some (.inr 68), some (.inl x1), some (.inl x2), some (.inl x3), some (.inl x4), some (.inl x5), some (.inl x6)] [.inl y2, .inl (x5 - x1), .inr 68] m1 Q
    refine zR_callV (Y' := Y_Mo_number) (n := 2) (A := [.inl (x5 - x1), .inl y2]) (b := 68) (S := []) v_Mo_number g_262 sh_68 cl_Mo rfl d_Mo_describe_148 rfl (Nat.le_of_ble_eq_true rfl) rfl (zR_cons ?_ h)
    rintro r_ m3 ⟨rfl, h⟩
    show zR κ (d + 1) Y_Mo_describe 151 [some (.inr 68), some (.inl x1), some (.inl x2), some (.inl x3), some (.inl x4), some (.inl x5), some (.inl x6)] [] m3 Q
    refine zR_iinc (v := 1) d_Mo_describe_151 rfl (by decide) (by decide) ?_
    refine zR_goto (tgt := 83) d_Mo_describe_154 (by decide) ?_
    refine zR_drop 6 ?_
    exact h
theorem w_Mo_full_0 {κ : zK} {d : Nat} {mem : zM} {Q : Option zV → zM → Prop} {x1 x2 : Int32}
    (h : zR κ (d + 1) Y_Mo_full 5 [some (.inr 68), some (.inl x1), some (.inl x2), some (.inl 0), some (.inl x1), none] [] mem Q) : zR κ (d + 1) Y_Mo_full 0 [some (.inr 68), some (.inl x1), some (.inl x2), none, none, none] [] mem Q := by
  refine zR_iconst (v := 0) d_Mo_full_0 (by decide) ?_
  refine zR_istore_n d_Mo_full_1 rfl (by decide) ?_
  refine zR_iload_n d_Mo_full_2 rfl rfl ?_
  refine zR_istore d_Mo_full_3 (by decide) ?_
  exact h
theorem w_Mo_full_5 {κ : zK} {d : Nat} {mem : zM} {Q : Option zV → zM → Prop} {x1 x2 x3 x4 : Int32}
    (h : (((x1 + x2) ≤ x4 → Q none mem) ∧ (¬ (x1 + x2) ≤ x4 → vp_in x4 1024 ∧ ((0 ≤ (mem 73 x4.toNatClampNeg) → zR κ (d + 1) Y_Mo_full 29 [some (.inr 68), some (.inl x1), some (.inl x2), some (.inl x3), some (.inl x4), none] [] mem Q) ∧ (¬ 0 ≤ (mem 73 x4.toNatClampNeg) → zR κ (d + 1) Y_Mo_full 5 [some (.inr 68), some (.inl x1), some (.inl x2), some (.inl (x3 + 1)), some (.inl (x4 + 1)), none] [] mem Q))))) : zR κ (d + 1) Y_Mo_full 5 [some (.inr 68), some (.inl x1), some (.inl x2), some (.inl x3), some (.inl x4), none] [] mem Q := by
  refine zR_iload d_Mo_full_5 rfl ?_
  refine zR_iload_n d_Mo_full_7 rfl rfl ?_
  refine zR_iload_n d_Mo_full_8 rfl rfl ?_
  refine zR_iadd d_Mo_full_9 ?_
  refine zR_icmp_ge (tgt := 106) d_Mo_full_10 (by decide) (fun h1 => ?_) (fun h1 => ?_)
  · replace h := h.1 h1
    exact zR_return rfl d_Mo_full_106 h
  · replace h := h.2 h1
    refine zR_aload_n d_Mo_full_13 rfl rfl ?_
    refine zR_getR (j := 11) d_Mo_full_14 sh_68 cl_Mo rfl (by decide) g_254 ?_
    refine zR_iload d_Mo_full_17 rfl ?_
    refine zR_iaload d_Mo_full_19 sh_73 h.1 rfl ?_
    replace h := h.2
    refine zR_if_ge (tgt := 29) d_Mo_full_20 (by decide) (fun h1 => ?_) (fun h1 => ?_)
    · replace h := h.1 h1
      exact h
    · replace h := h.2 h1
      refine zR_iinc (v := 1) d_Mo_full_23 rfl (by decide) (by decide) ?_
      refine zR_goto (tgt := 100) d_Mo_full_26 (by decide) ?_
      refine zR_iinc (v := 1) d_Mo_full_100 rfl (by decide) (by decide) ?_
      refine zR_goto (tgt := 5) d_Mo_full_103 (by decide) ?_
      exact h
theorem w_Mo_full_29 {κ : zK} {d : Nat} {mem : zM} {Q : Option zV → zM → Prop} {x1 x2 x3 x4 : Int32}
    (h : ((x3 < 3 → zR κ (d + 1) Y_Mo_full 72 [some (.inr 68), some (.inl x1), some (.inl x2), some (.inl x3), some (.inl x4), none] [] mem Q) ∧ (¬ x3 < 3 → ((18 ≤ x3 → zR κ (d + 1) Y_Mo_full 46 [some (.inr 68), some (.inl x1), some (.inl x2), some (.inl x3), some (.inl x4), none] [.inl 18] mem Q) ∧ (¬ 18 ≤ x3 → zR κ (d + 1) Y_Mo_full 46 [some (.inr 68), some (.inl x1), some (.inl x2), some (.inl x3), some (.inl x4), none] [.inl x3] mem Q))))) : zR κ (d + 1) Y_Mo_full 29 [some (.inr 68), some (.inl x1), some (.inl x2), some (.inl x3), some (.inl x4), none] [] mem Q := by
  refine zR_iload_n d_Mo_full_29 rfl rfl ?_
  refine zR_iconst (v := 3) d_Mo_full_30 (by decide) ?_
  refine zR_icmp_lt (tgt := 72) d_Mo_full_31 (by decide) (fun h1 => ?_) (fun h1 => ?_)
  · replace h := h.1 h1
    exact h
  · replace h := h.2 h1
    refine zR_iload_n d_Mo_full_34 rfl rfl ?_
    refine zR_bipush (v := 18) d_Mo_full_35 (by decide) ?_
    refine zR_icmp_ge (tgt := 44) d_Mo_full_37 (by decide) (fun h1 => ?_) (fun h1 => ?_)
    · replace h := h.1 h1
      refine zR_bipush (v := 18) d_Mo_full_44 (by decide) ?_
      exact h
    · replace h := h.2 h1
      refine zR_iload_n d_Mo_full_40 rfl rfl ?_
      refine zR_goto (tgt := 46) d_Mo_full_41 (by decide) ?_
      exact h
theorem w_Mo_full_46 {κ : zK} {d : Nat} {mem : zM} {Q : Option zV → zM → Prop} {x1 x2 x3 x4 s0 : Int32}
    (h : zR κ d Y_Mo_number 0 [some (.inr 68), some (.inl 7), some (.inl 3), none] [] mem (fun r m1 => r = none ∧ zR κ d Y_Mo_number 0 [some (.inr 68), some (.inl (s0 - 3)), some (.inl 4), none] [] m1 (fun r m2 => r = none ∧ zR κ (d + 1) Y_Mo_full 29 [some (.inr 68), some (.inl x1), some (.inl x2), some (.inl (x3 - s0)), some (.inl x4), none] [] m2 Q))) : zR κ (d + 1) Y_Mo_full 46 [some (.inr 68), some (.inl x1), some (.inl x2), some (.inl x3), some (.inl x4), none] [.inl s0] mem Q := by
  refine zR_istore d_Mo_full_46 (by decide) ?_
  refine zR_aload_n d_Mo_full_48 rfl rfl ?_
  refine zR_bipush (v := 7) d_Mo_full_49 (by decide) ?_
  refine zR_iconst (v := 3) d_Mo_full_51 (by decide) ?_
  refine zR_callV (Y' := Y_Mo_number) (n := 2) (A := [.inl 7, .inl 3]) (b := 68) (S := []) v_Mo_number g_262 sh_68 cl_Mo rfl d_Mo_full_52 rfl (Nat.le_of_ble_eq_true rfl) rfl (zR_cons ?_ h)
  rintro r_ m1 ⟨rfl, h⟩
  show zR κ (d + 1) Y_Mo_full 55 [some (.inr 68), some (.inl x1), some (.inl x2), some (.inl x3), some (.inl x4), some (.inl s0)] [] m1 Q
  refine zR_aload_n d_Mo_full_55 rfl rfl ?_
  refine zR_iload d_Mo_full_56 rfl ?_
  refine zR_iconst (v := 3) d_Mo_full_58 (by decide) ?_
  refine zR_isub d_Mo_full_59 ?_
  refine zR_iconst (v := 4) d_Mo_full_60 (by decide) ?_
  refine zR_callV (Y' := Y_Mo_number) (n := 2) (A := [.inl (s0 - 3), .inl 4]) (b := 68) (S := []) v_Mo_number g_262 sh_68 cl_Mo rfl d_Mo_full_61 rfl (Nat.le_of_ble_eq_true rfl) rfl (zR_cons ?_ h)
  rintro r_ m2 ⟨rfl, h⟩
  show zR κ (d + 1) Y_Mo_full 64 [some (.inr 68), some (.inl x1), some (.inl x2), some (.inl x3), some (.inl x4), some (.inl s0)] [] m2 Q
  refine zR_iload_n d_Mo_full_64 rfl rfl ?_
  refine zR_iload d_Mo_full_65 rfl ?_
  refine zR_isub d_Mo_full_67 ?_
  refine zR_istore_n d_Mo_full_68 rfl (by decide) ?_
  refine zR_goto (tgt := 29) d_Mo_full_69 (by decide) ?_
  refine zR_drop 5 ?_
  exact h
theorem w_Mo_full_72 {κ : zK} {d : Nat} {mem : zM} {Q : Option zV → zM → Prop} {x1 x2 x3 x4 : Int32}
    (h : ((x3 ≤ 0 → vp_in x4 1024 ∧ zR κ d Y_Mo_number 0 [some (.inr 68), some (.inl (mem 73 x4.toNatClampNeg)), some (.inl 3), none] [] mem (fun r m1 => r = none ∧ zR κ (d + 1) Y_Mo_full 5 [some (.inr 68), some (.inl x1), some (.inl x2), some (.inl x3), some (.inl (x4 + 1)), none] [] m1 Q)) ∧ (¬ x3 ≤ 0 → zR κ d Y_Mo_number 0 [some (.inr 68), some (.inl 0), some (.inl 3), none] [] mem (fun r m2 => r = none ∧ zR κ (d + 1) Y_Mo_full 72 [some (.inr 68), some (.inl x1), some (.inl x2), some (.inl (x3 + (-1))), some (.inl x4), none] [] m2 Q)))) : zR κ (d + 1) Y_Mo_full 72 [some (.inr 68), some (.inl x1), some (.inl x2), some (.inl x3), some (.inl x4), none] [] mem Q := by
  refine zR_iload_n d_Mo_full_72 rfl rfl ?_
  refine zR_if_le (tgt := 88) d_Mo_full_73 (by decide) (fun h1 => ?_) (fun h1 => ?_)
  · replace h := h.1 h1
    refine zR_aload_n d_Mo_full_88 rfl rfl ?_
    refine zR_aload_n d_Mo_full_89 rfl rfl ?_
    refine zR_getR (j := 11) d_Mo_full_90 sh_68 cl_Mo rfl (by decide) g_254 ?_
    refine zR_iload d_Mo_full_93 rfl ?_
    refine zR_iaload d_Mo_full_95 sh_73 h.1 rfl ?_
    replace h := h.2
    refine zR_iconst (v := 3) d_Mo_full_96 (by decide) ?_
    refine zR_callV (Y' := Y_Mo_number) (n := 2) (A := [.inl (mem 73 x4.toNatClampNeg), .inl 3]) (b := 68) (S := []) v_Mo_number g_262 sh_68 cl_Mo rfl d_Mo_full_97 rfl (Nat.le_of_ble_eq_true rfl) rfl (zR_cons ?_ h)
    rintro r_ m1 ⟨rfl, h⟩
    show zR κ (d + 1) Y_Mo_full 100 [some (.inr 68), some (.inl x1), some (.inl x2), some (.inl x3), some (.inl x4), none] [] m1 Q
    refine zR_iinc (v := 1) d_Mo_full_100 rfl (by decide) (by decide) ?_
    refine zR_goto (tgt := 5) d_Mo_full_103 (by decide) ?_
    exact h
  · replace h := h.2 h1
    refine zR_aload_n d_Mo_full_76 rfl rfl ?_
    refine zR_iconst (v := 0) d_Mo_full_77 (by decide) ?_
    refine zR_iconst (v := 3) d_Mo_full_78 (by decide) ?_
    refine zR_callV (Y' := Y_Mo_number) (n := 2) (A := [.inl 0, .inl 3]) (b := 68) (S := []) v_Mo_number g_262 sh_68 cl_Mo rfl d_Mo_full_79 rfl (Nat.le_of_ble_eq_true rfl) rfl (zR_cons ?_ h)
    rintro r_ m2 ⟨rfl, h⟩
    show zR κ (d + 1) Y_Mo_full 82 [some (.inr 68), some (.inl x1), some (.inl x2), some (.inl x3), some (.inl x4), none] [] m2 Q
    refine zR_iinc (v := (-1)) d_Mo_full_82 rfl (by decide) (by decide) ?_
    refine zR_goto (tgt := 72) d_Mo_full_85 (by decide) ?_
    exact h
theorem w_Mo_symbol_0 {κ : zK} {d : Nat} {mem : zM} {Q : Option zV → zM → Prop} {x1 x2 : Int32}
    (h : ((¬ x2 = 0 → vp_in x1 1024 ∧ zR κ (d + 1) Y_Mo_symbol 24 [some (.inr 68), some (.inl x1), some (.inl x2), some (.inl ((mem 73 x1.toNatClampNeg) - 1))] [] mem Q) ∧ (x2 = 0 → vp_in x1 1024 ∧ vp_in x1 1024 ∧ Q none (zms mem 72 x1.toNatClampNeg ((mem 72 x1.toNatClampNeg) + 1))))) : zR κ (d + 1) Y_Mo_symbol 0 [some (.inr 68), some (.inl x1), some (.inl x2), none] [] mem Q := by
  refine zR_iload_n d_Mo_symbol_0 rfl rfl ?_
  refine zR_if_ne (tgt := 15) d_Mo_symbol_1 (by decide) (fun h1 => ?_) (fun h1 => ?_)
  · replace h := h.1 h1
    refine zR_aload_n d_Mo_symbol_15 rfl rfl ?_
    refine zR_getR (j := 11) d_Mo_symbol_16 sh_68 cl_Mo rfl (by decide) g_254 ?_
    refine zR_iload_n d_Mo_symbol_19 rfl rfl ?_
    refine zR_iaload d_Mo_symbol_20 sh_73 h.1 rfl ?_
    replace h := h.2
    refine zR_iconst (v := 1) d_Mo_symbol_21 (by decide) ?_
    refine zR_isub d_Mo_symbol_22 ?_
    refine zR_istore_n d_Mo_symbol_23 rfl (by decide) ?_
    exact h
  · replace h := h.2 h1
    refine zR_aload_n d_Mo_symbol_4 rfl rfl ?_
    refine zR_getR (j := 10) d_Mo_symbol_5 sh_68 cl_Mo rfl (by decide) g_253 ?_
    refine zR_iload_n d_Mo_symbol_8 rfl rfl ?_
    refine zR_dup2 d_Mo_symbol_9 ?_
    refine zR_iaload d_Mo_symbol_10 sh_72 h.1 rfl ?_
    replace h := h.2
    refine zR_iconst (v := 1) d_Mo_symbol_11 (by decide) ?_
    refine zR_iadd d_Mo_symbol_12 ?_
    refine zR_iastore d_Mo_symbol_13 sh_72 h.1 rfl ?_
    replace h := h.2
    exact zR_return rfl d_Mo_symbol_14 h
theorem w_Mo_symbol_24 {κ : zK} {d : Nat} {mem : zM} {Q : Option zV → zM → Prop} {x1 x2 x3 : Int32}
    (h : ((x3 < 0 → Q none mem) ∧ (¬ x3 < 0 → vp_in x1 1024 ∧ zR κ d Y_Mo_number 0 [some (.inr 68), some (.inl (((mem 74 x1.toNatClampNeg) >>> (x3 &&& 31)) &&& 1)), some (.inl 1), none] [] mem (fun r m1 => r = none ∧ zR κ (d + 1) Y_Mo_symbol 24 [some (.inr 68), some (.inl x1), some (.inl x2), some (.inl (x3 + (-1)))] [] m1 Q)))) : zR κ (d + 1) Y_Mo_symbol 24 [some (.inr 68), some (.inl x1), some (.inl x2), some (.inl x3)] [] mem Q := by
  refine zR_iload_n d_Mo_symbol_24 rfl rfl ?_
  refine zR_if_lt (tgt := 49) d_Mo_symbol_25 (by decide) (fun h1 => ?_) (fun h1 => ?_)
  · replace h := h.1 h1
    exact zR_return rfl d_Mo_symbol_49 h
  · replace h := h.2 h1
    refine zR_aload_n d_Mo_symbol_28 rfl rfl ?_
    refine zR_aload_n d_Mo_symbol_29 rfl rfl ?_
    refine zR_getR (j := 12) d_Mo_symbol_30 sh_68 cl_Mo rfl (by decide) g_256 ?_
    refine zR_iload_n d_Mo_symbol_33 rfl rfl ?_
    refine zR_iaload d_Mo_symbol_34 sh_74 h.1 rfl ?_
    replace h := h.2
    refine zR_iload_n d_Mo_symbol_35 rfl rfl ?_
    refine zR_ishr d_Mo_symbol_36 rfl ?_
    refine zR_iconst (v := 1) d_Mo_symbol_37 (by decide) ?_
    refine zR_iand d_Mo_symbol_38 ?_
    refine zR_iconst (v := 1) d_Mo_symbol_39 (by decide) ?_
    refine zR_callV (Y' := Y_Mo_number) (n := 2) (A := [.inl (((mem 74 x1.toNatClampNeg) >>> (x3 &&& 31)) &&& 1), .inl 1]) (b := 68) (S := []) v_Mo_number g_262 sh_68 cl_Mo rfl d_Mo_symbol_40 rfl (Nat.le_of_ble_eq_true rfl) rfl (zR_cons ?_ h)
    rintro r_ m1 ⟨rfl, h⟩
    show zR κ (d + 1) Y_Mo_symbol 43 [some (.inr 68), some (.inl x1), some (.inl x2), some (.inl x3)] [] m1 Q
    refine zR_iinc (v := (-1)) d_Mo_symbol_43 rfl (by decide) (by decide) ?_
    refine zR_goto (tgt := 24) d_Mo_symbol_46 (by decide) ?_
    exact h
theorem w_Mo_insertKind_0 {κ : zK} {d : Nat} {mem : zM} {Q : Option zV → zM → Prop} {x0 : Int32}
    (h : ((2 ≤ x0 → ((6 ≤ x0 → Q (some (.inl 3)) mem) ∧ (¬ 6 ≤ x0 → Q (some (.inl 2)) mem))) ∧ (¬ 2 ≤ x0 → Q (some (.inl x0)) mem))) : zR κ d Y_Mo_insertKind 0 [some (.inl x0)] [] mem Q := by
  refine zR_iload_n d_Mo_insertKind_0 rfl rfl ?_
  refine zR_iconst (v := 2) d_Mo_insertKind_1 (by decide) ?_
  refine zR_icmp_ge (tgt := 9) d_Mo_insertKind_2 (by decide) (fun h1 => ?_) (fun h1 => ?_)
  · replace h := h.1 h1
    refine zR_iload_n d_Mo_insertKind_9 rfl rfl ?_
    refine zR_bipush (v := 6) d_Mo_insertKind_10 (by decide) ?_
    refine zR_icmp_ge (tgt := 19) d_Mo_insertKind_12 (by decide) (fun h1 => ?_) (fun h1 => ?_)
    · replace h := h.1 h1
      refine zR_iconst (v := 3) d_Mo_insertKind_19 (by decide) ?_
      exact zR_ireturn rfl d_Mo_insertKind_20 h
    · replace h := h.2 h1
      refine zR_iconst (v := 2) d_Mo_insertKind_15 (by decide) ?_
      refine zR_goto (tgt := 20) d_Mo_insertKind_16 (by decide) ?_
      exact zR_ireturn rfl d_Mo_insertKind_20 h
  · replace h := h.2 h1
    refine zR_iload_n d_Mo_insertKind_5 rfl rfl ?_
    refine zR_goto (tgt := 20) d_Mo_insertKind_6 (by decide) ?_
    exact zR_ireturn rfl d_Mo_insertKind_20 h
theorem w_Mo_copyBits_0 {κ : zK} {d : Nat} {mem : zM} {Q : Option zV → zM → Prop} {x0 : Int32}
    (h : ((¬ x0 = 4 → ((¬ x0 = 5 → ((¬ x0 = 6 → Q (some (.inl 0)) mem) ∧ (x0 = 6 → Q (some (.inl 5)) mem))) ∧ (x0 = 5 → Q (some (.inl 4)) mem))) ∧ (x0 = 4 → Q (some (.inl 2)) mem))) : zR κ d Y_Mo_copyBits 0 [some (.inl x0)] [] mem Q := by
  refine zR_iload_n d_Mo_copyBits_0 rfl rfl ?_
  refine zR_iconst (v := 4) d_Mo_copyBits_1 (by decide) ?_
  refine zR_icmp_ne (tgt := 9) d_Mo_copyBits_2 (by decide) (fun h1 => ?_) (fun h1 => ?_)
  · replace h := h.1 h1
    refine zR_iload_n d_Mo_copyBits_9 rfl rfl ?_
    refine zR_iconst (v := 5) d_Mo_copyBits_10 (by decide) ?_
    refine zR_icmp_ne (tgt := 18) d_Mo_copyBits_11 (by decide) (fun h1 => ?_) (fun h1 => ?_)
    · replace h := h.1 h1
      refine zR_iload_n d_Mo_copyBits_18 rfl rfl ?_
      refine zR_bipush (v := 6) d_Mo_copyBits_19 (by decide) ?_
      refine zR_icmp_ne (tgt := 28) d_Mo_copyBits_21 (by decide) (fun h1 => ?_) (fun h1 => ?_)
      · replace h := h.1 h1
        refine zR_iconst (v := 0) d_Mo_copyBits_28 (by decide) ?_
        exact zR_ireturn rfl d_Mo_copyBits_29 h
      · replace h := h.2 h1
        refine zR_iconst (v := 5) d_Mo_copyBits_24 (by decide) ?_
        refine zR_goto (tgt := 29) d_Mo_copyBits_25 (by decide) ?_
        exact zR_ireturn rfl d_Mo_copyBits_29 h
    · replace h := h.2 h1
      refine zR_iconst (v := 4) d_Mo_copyBits_14 (by decide) ?_
      refine zR_goto (tgt := 29) d_Mo_copyBits_15 (by decide) ?_
      exact zR_ireturn rfl d_Mo_copyBits_29 h
  · replace h := h.2 h1
    refine zR_iconst (v := 2) d_Mo_copyBits_5 (by decide) ?_
    refine zR_goto (tgt := 29) d_Mo_copyBits_6 (by decide) ?_
    exact zR_ireturn rfl d_Mo_copyBits_29 h
theorem w_Mo_copyFrom_0 {κ : zK} {d : Nat} {mem : zM} {Q : Option zV → zM → Prop} {x0 : Int32}
    (h : ((4 ≤ x0 → ((¬ x0 = 4 → ((¬ x0 = 5 → ((¬ x0 = 6 → Q (some (.inl 3)) mem) ∧ (x0 = 6 → Q (some (.inl 26)) mem))) ∧ (x0 = 5 → Q (some (.inl 10)) mem))) ∧ (x0 = 4 → Q (some (.inl 6)) mem))) ∧ (¬ 4 ≤ x0 → Q (some (.inl (x0 + 2))) mem))) : zR κ d Y_Mo_copyFrom 0 [some (.inl x0)] [] mem Q := by
  refine zR_iload_n d_Mo_copyFrom_0 rfl rfl ?_
  refine zR_iconst (v := 4) d_Mo_copyFrom_1 (by decide) ?_
  refine zR_icmp_ge (tgt := 11) d_Mo_copyFrom_2 (by decide) (fun h1 => ?_) (fun h1 => ?_)
  · replace h := h.1 h1
    refine zR_iload_n d_Mo_copyFrom_11 rfl rfl ?_
    refine zR_iconst (v := 4) d_Mo_copyFrom_12 (by decide) ?_
    refine zR_icmp_ne (tgt := 21) d_Mo_copyFrom_13 (by decide) (fun h1 => ?_) (fun h1 => ?_)
    · replace h := h.1 h1
      refine zR_iload_n d_Mo_copyFrom_21 rfl rfl ?_
      refine zR_iconst (v := 5) d_Mo_copyFrom_22 (by decide) ?_
      refine zR_icmp_ne (tgt := 31) d_Mo_copyFrom_23 (by decide) (fun h1 => ?_) (fun h1 => ?_)
      · replace h := h.1 h1
        refine zR_iload_n d_Mo_copyFrom_31 rfl rfl ?_
        refine zR_bipush (v := 6) d_Mo_copyFrom_32 (by decide) ?_
        refine zR_icmp_ne (tgt := 42) d_Mo_copyFrom_34 (by decide) (fun h1 => ?_) (fun h1 => ?_)
        · replace h := h.1 h1
          refine zR_iconst (v := 3) d_Mo_copyFrom_42 (by decide) ?_
          exact zR_ireturn rfl d_Mo_copyFrom_43 h
        · replace h := h.2 h1
          refine zR_bipush (v := 26) d_Mo_copyFrom_37 (by decide) ?_
          refine zR_goto (tgt := 43) d_Mo_copyFrom_39 (by decide) ?_
          exact zR_ireturn rfl d_Mo_copyFrom_43 h
      · replace h := h.2 h1
        refine zR_bipush (v := 10) d_Mo_copyFrom_26 (by decide) ?_
        refine zR_goto (tgt := 43) d_Mo_copyFrom_28 (by decide) ?_
        exact zR_ireturn rfl d_Mo_copyFrom_43 h
    · replace h := h.2 h1
      refine zR_bipush (v := 6) d_Mo_copyFrom_16 (by decide) ?_
      refine zR_goto (tgt := 43) d_Mo_copyFrom_18 (by decide) ?_
      exact zR_ireturn rfl d_Mo_copyFrom_43 h
  · replace h := h.2 h1
    refine zR_iload_n d_Mo_copyFrom_5 rfl rfl ?_
    refine zR_iconst (v := 2) d_Mo_copyFrom_6 (by decide) ?_
    refine zR_iadd d_Mo_copyFrom_7 ?_
    refine zR_goto (tgt := 43) d_Mo_copyFrom_8 (by decide) ?_
    exact zR_ireturn rfl d_Mo_copyFrom_43 h
theorem w_Mo_through_0 {κ : zK} {d : Nat} {mem : zM} {Q : Option zV → zM → Prop} {x1 x2 x3 : Int32}
    (h : zR κ (d + 1) Y_Mo_through 6 [some (.inr 68), some (.inl x1), some (.inl x2), some (.inl x3), some (.inl x1), some (.inl 0), none, none, none] [] mem Q) : zR κ (d + 1) Y_Mo_through 0 [some (.inr 68), some (.inl x1), some (.inl x2), some (.inl x3), none, none, none, none, none] [] mem Q := by
  refine zR_iload_n d_Mo_through_0 rfl rfl ?_
  refine zR_istore d_Mo_through_1 (by decide) ?_
  refine zR_iconst (v := 0) d_Mo_through_3 (by decide) ?_
  refine zR_istore d_Mo_through_4 (by decide) ?_
  exact h
theorem w_Mo_through_6 {κ : zK} {d : Nat} {mem : zM} {Q : Option zV → zM → Prop} {x1 x2 x3 x4 x5 : Int32}
    (h : (((mem 68 15) ≤ x5 → Q none mem) ∧ (¬ (mem 68 15) ≤ x5 → vp_in x5 50 ∧ zR κ d Y_Mo_insertKind 0 [some (.inl (mem 77 x5.toNatClampNeg))] [] mem (fun r m1 => ∃ y2 : Int32, r = some (.inl y2) ∧ vp_in x5 50 ∧ zR κ d Y_Mo_symbol 0 [some (.inr 68), some (.inl ((512 + (8 * y2)) + (m1 78 x5.toNatClampNeg))), some (.inl x3), none] [] m1 (fun r m3 => r = none ∧ ((x3 = 0 → zR κ (d + 1) Y_Mo_through 134 [some (.inr 68), some (.inl x1), some (.inl x2), some (.inl x3), some (.inl x4), some (.inl x5), some (.inl y2), some (.inl 0), none] [] m3 Q) ∧ (¬ x3 = 0 → vp_in x5 50 ∧ ((¬ y2 = 2 → zR κ (d + 1) Y_Mo_through 73 [some (.inr 68), some (.inl x1), some (.inl x2), some (.inl x3), some (.inl x4), some (.inl x5), some (.inl y2), none, none] [.inl 6, .inl (m3 77 x5.toNatClampNeg), .inr 68] m3 Q) ∧ (y2 = 2 → zR κ (d + 1) Y_Mo_through 73 [some (.inr 68), some (.inl x1), some (.inl x2), some (.inl x3), some (.inl x4), some (.inl x5), some (.inl y2), none, none] [.inl 2, .inl (m3 77 x5.toNatClampNeg), .inr 68] m3 Q))))))))) : zR κ (d + 1) Y_Mo_through 6 [some (.inr 68), some (.inl x1), some (.inl x2), some (.inl x3), some (.inl x4), some (.inl x5), none, none, none] [] mem Q := by
  refine zR_iload d_Mo_through_6 rfl ?_
  refine zR_aload_n d_Mo_through_8 rfl rfl ?_
  refine zR_getI (j := 15) d_Mo_through_9 sh_68 cl_Mo rfl (by decide) g_240 ?_
  refine zR_icmp_ge (tgt := 304) d_Mo_through_12 (by decide) (fun h1 => ?_) (fun h1 => ?_)
  · replace h := h.1 h1
    exact zR_return rfl d_Mo_through_304 h
  · replace h := h.2 h1
    refine zR_aload_n d_Mo_through_15 rfl rfl ?_
    refine zR_getR (j := 16) d_Mo_through_16 sh_68 cl_Mo rfl (by decide) g_243 ?_
    refine zR_iload d_Mo_through_19 rfl ?_
    refine zR_iaload d_Mo_through_21 sh_77 h.1 rfl ?_
    replace h := h.2
    refine zR_callS (Y' := Y_Mo_insertKind) (n := 1) (A := [.inl (mem 77 x5.toNatClampNeg)]) (S := []) v_Mo_insertKind g_265 d_Mo_through_22 rfl (Nat.le_of_ble_eq_true rfl) rfl (zR_cons ?_ h)
    rintro r_ m1 ⟨y2, rfl, h⟩
    show zR κ (d + 1) Y_Mo_through 25 [some (.inr 68), some (.inl x1), some (.inl x2), some (.inl x3), some (.inl x4), some (.inl x5), none, none, none] [.inl y2] m1 Q
    refine zR_istore d_Mo_through_25 (by decide) ?_
    refine zR_aload_n d_Mo_through_27 rfl rfl ?_
    refine zR_sipush (v := 512) d_Mo_through_28 (by decide) ?_
    refine zR_bipush (v := 8) d_Mo_through_31 (by decide) ?_
    refine zR_iload d_Mo_through_33 rfl ?_
    refine zR_imul d_Mo_through_35 ?_
    refine zR_iadd d_Mo_through_36 ?_
    refine zR_aload_n d_Mo_through_37 rfl rfl ?_
    refine zR_getR (j := 17) d_Mo_through_38 sh_68 cl_Mo rfl (by decide) g_247 ?_
    refine zR_iload d_Mo_through_41 rfl ?_
    refine zR_iaload d_Mo_through_43 sh_78 h.1 rfl ?_
    replace h := h.2
    refine zR_iadd d_Mo_through_44 ?_
    refine zR_iload_n d_Mo_through_45 rfl rfl ?_
    refine zR_callV (Y' := Y_Mo_symbol) (n := 2) (A := [.inl ((512 + (8 * y2)) + (m1 78 x5.toNatClampNeg)), .inl x3]) (b := 68) (S := []) v_Mo_symbol g_266 sh_68 cl_Mo rfl d_Mo_through_46 rfl (Nat.le_of_ble_eq_true rfl) rfl (zR_cons ?_ h)
    rintro r_ m3 ⟨rfl, h⟩
    show zR κ (d + 1) Y_Mo_through 49 [some (.inr 68), some (.inl x1), some (.inl x2), some (.inl x3), some (.inl x4), some (.inl x5), some (.inl y2), none, none] [] m3 Q
    refine zR_iload_n d_Mo_through_49 rfl rfl ?_
    refine zR_if_eq (tgt := 131) d_Mo_through_50 (by decide) (fun h1 => ?_) (fun h1 => ?_)
    · replace h := h.1 h1
      refine zR_iconst (v := 0) d_Mo_through_131 (by decide) ?_
      refine zR_istore d_Mo_through_132 (by decide) ?_
      exact h
    · replace h := h.2 h1
      refine zR_aload_n d_Mo_through_53 rfl rfl ?_
      refine zR_aload_n d_Mo_through_54 rfl rfl ?_
      refine zR_getR (j := 16) d_Mo_through_55 sh_68 cl_Mo rfl (by decide) g_243 ?_
      refine zR_iload d_Mo_through_58 rfl ?_
      refine zR_iaload d_Mo_through_60 sh_77 h.1 rfl ?_
      replace h := h.2
      refine zR_iload d_Mo_through_61 rfl ?_
      refine zR_iconst (v := 2) d_Mo_through_63 (by decide) ?_
      refine zR_icmp_ne (tgt := 71) d_Mo_through_64 (by decide) (fun h1 => ?_) (fun h1 => ?_)
      · replace h := h.1 h1
        refine zR_bipush (v := 6) d_Mo_through_71 (by decide) ?_
        exact h
      · replace h := h.2 h1
        refine zR_iconst (v := 2) d_Mo_through_67 (by decide) ?_
        refine zR_goto (tgt := 73) d_Mo_through_68 (by decide) ?_
        exact h
theorem w_Mo_through_73 {κ : zK} {d : Nat} {mem : zM} {Q : Option zV → zM → Prop} {x1 x2 x3 x4 x5 x6 s1 s2 : Int32}
    (h : ((¬ x6 = 2 → ((¬ x6 = 3 → zR κ (d + 1) Y_Mo_through 96 [some (.inr 68), some (.inl x1), some (.inl x2), some (.inl x3), some (.inl x4), some (.inl x5), some (.inl x6), none, none] [.inl 0, .inl (s1 - s2), .inr 68] mem Q) ∧ (x6 = 3 → zR κ (d + 1) Y_Mo_through 96 [some (.inr 68), some (.inl x1), some (.inl x2), some (.inl x3), some (.inl x4), some (.inl x5), some (.inl x6), none, none] [.inl 6, .inl (s1 - s2), .inr 68] mem Q))) ∧ (x6 = 2 → zR κ (d + 1) Y_Mo_through 96 [some (.inr 68), some (.inl x1), some (.inl x2), some (.inl x3), some (.inl x4), some (.inl x5), some (.inl x6), none, none] [.inl 2, .inl (s1 - s2), .inr 68] mem Q))) : zR κ (d + 1) Y_Mo_through 73 [some (.inr 68), some (.inl x1), some (.inl x2), some (.inl x3), some (.inl x4), some (.inl x5), some (.inl x6), none, none] [.inl s2, .inl s1, .inr 68] mem Q := by
  refine zR_isub d_Mo_through_73 ?_
  refine zR_iload d_Mo_through_74 rfl ?_
  refine zR_iconst (v := 2) d_Mo_through_76 (by decide) ?_
  refine zR_icmp_ne (tgt := 84) d_Mo_through_77 (by decide) (fun h1 => ?_) (fun h1 => ?_)
  · replace h := h.1 h1
    refine zR_iload d_Mo_through_84 rfl ?_
    refine zR_iconst (v := 3) d_Mo_through_86 (by decide) ?_
    refine zR_icmp_ne (tgt := 95) d_Mo_through_87 (by decide) (fun h1 => ?_) (fun h1 => ?_)
    · replace h := h.1 h1
      refine zR_iconst (v := 0) d_Mo_through_95 (by decide) ?_
      exact h
    · replace h := h.2 h1
      refine zR_bipush (v := 6) d_Mo_through_90 (by decide) ?_
      refine zR_goto (tgt := 96) d_Mo_through_92 (by decide) ?_
      exact h
  · replace h := h.2 h1
    refine zR_iconst (v := 2) d_Mo_through_80 (by decide) ?_
    refine zR_goto (tgt := 96) d_Mo_through_81 (by decide) ?_
    exact h
theorem w_Mo_through_96 {κ : zK} {d : Nat} {mem : zM} {Q : Option zV → zM → Prop} {x1 x2 x3 x4 x5 x6 s1 s2 : Int32}
    (h : zR κ d Y_Mo_number 0 [some (.inr 68), some (.inl s1), some (.inl s2), none] [] mem (fun r m1 => r = none ∧ vp_in x5 50 ∧ vp_in x5 50 ∧ zR κ d Y_Mo_copyFrom 0 [some (.inl (m1 78 x5.toNatClampNeg))] [] m1 (fun r m2 => ∃ y3 : Int32, r = some (.inl y3) ∧ vp_in x5 50 ∧ zR κ d Y_Mo_copyBits 0 [some (.inl (m2 78 x5.toNatClampNeg))] [] m2 (fun r m4 => ∃ y5 : Int32, r = some (.inl y5) ∧ zR κ d Y_Mo_number 0 [some (.inr 68), some (.inl ((m1 79 x5.toNatClampNeg) - y3)), some (.inl y5), none] [] m4 (fun r m6 => r = none ∧ zR κ (d + 1) Y_Mo_through 134 [some (.inr 68), some (.inl x1), some (.inl x2), some (.inl x3), some (.inl x4), some (.inl x5), some (.inl x6), some (.inl 0), none] [] m6 Q))))) : zR κ (d + 1) Y_Mo_through 96 [some (.inr 68), some (.inl x1), some (.inl x2), some (.inl x3), some (.inl x4), some (.inl x5), some (.inl x6), none, none] [.inl s2, .inl s1, .inr 68] mem Q := by
  refine zR_callV (Y' := Y_Mo_number) (n := 2) (A := [.inl s1, .inl s2]) (b := 68) (S := []) v_Mo_number g_262 sh_68 cl_Mo rfl d_Mo_through_96 rfl (Nat.le_of_ble_eq_true rfl) rfl (zR_cons ?_ h)
  rintro r_ m1 ⟨rfl, h⟩
  show zR κ (d + 1) Y_Mo_through 99 [some (.inr 68), some (.inl x1), some (.inl x2), some (.inl x3), some (.inl x4), some (.inl x5), some (.inl x6), none, none] [] m1 Q
  refine zR_aload_n d_Mo_through_99 rfl rfl ?_
  refine zR_aload_n d_Mo_through_100 rfl rfl ?_
  refine zR_getR (j := 18) d_Mo_through_101 sh_68 cl_Mo rfl (by decide) g_244 ?_
  refine zR_iload d_Mo_through_104 rfl ?_
  refine zR_iaload d_Mo_through_106 sh_79 h.1 rfl ?_
  replace h := h.2
  refine zR_aload_n d_Mo_through_107 rfl rfl ?_
  refine zR_getR (j := 17) d_Mo_through_108 sh_68 cl_Mo rfl (by decide) g_247 ?_
  refine zR_iload d_Mo_through_111 rfl ?_
  refine zR_iaload d_Mo_through_113 sh_78 h.1 rfl ?_
  replace h := h.2
  refine zR_callS (Y' := Y_Mo_copyFrom) (n := 1) (A := [.inl (m1 78 x5.toNatClampNeg)]) (S := [.inl (m1 79 x5.toNatClampNeg), .inr 68]) v_Mo_copyFrom g_267 d_Mo_through_114 rfl (Nat.le_of_ble_eq_true rfl) rfl (zR_cons ?_ h)
  rintro r_ m2 ⟨y3, rfl, h⟩
  show zR κ (d + 1) Y_Mo_through 117 [some (.inr 68), some (.inl x1), some (.inl x2), some (.inl x3), some (.inl x4), some (.inl x5), some (.inl x6), none, none] [.inl y3, .inl (m1 79 x5.toNatClampNeg), .inr 68] m2 Q
  refine zR_isub d_Mo_through_117 ?_
  refine zR_aload_n d_Mo_through_118 rfl rfl ?_
  refine zR_getR (j := 17) d_Mo_through_119 sh_68 cl_Mo rfl (by decide) g_247 ?_
  refine zR_iload d_Mo_through_122 rfl ?_
  refine zR_iaload d_Mo_through_124 sh_78 h.1 rfl ?_
  replace h := h.2
  refine zR_callS (Y' := Y_Mo_copyBits) (n := 1) (A := [.inl (m2 78 x5.toNatClampNeg)]) (S := [.inl ((m1 79 x5.toNatClampNeg) - y3), .inr 68]) v_Mo_copyBits g_268 d_Mo_through_125 rfl (Nat.le_of_ble_eq_true rfl) rfl (zR_cons ?_ h)
  rintro r_ m4 ⟨y5, rfl, h⟩
  show zR κ (d + 1) Y_Mo_through 128 [some (.inr 68), some (.inl x1), some (.inl x2), some (.inl x3), some (.inl x4), some (.inl x5), some (.inl x6), none, none] [.inl y5, .inl ((m1 79 x5.toNatClampNeg) - y3), .inr 68] m4 Q
  refine zR_callV (Y' := Y_Mo_number) (n := 2) (A := [.inl ((m1 79 x5.toNatClampNeg) - y3), .inl y5]) (b := 68) (S := []) v_Mo_number g_262 sh_68 cl_Mo rfl d_Mo_through_128 rfl (Nat.le_of_ble_eq_true rfl) rfl (zR_cons ?_ h)
  rintro r_ m6 ⟨rfl, h⟩
  show zR κ (d + 1) Y_Mo_through 131 [some (.inr 68), some (.inl x1), some (.inl x2), some (.inl x3), some (.inl x4), some (.inl x5), some (.inl x6), none, none] [] m6 Q
  refine zR_iconst (v := 0) d_Mo_through_131 (by decide) ?_
  refine zR_istore d_Mo_through_132 (by decide) ?_
  exact h
theorem w_Mo_through_134 {κ : zK} {d : Nat} {mem : zM} {Q : Option zV → zM → Prop} {x1 x2 x3 x4 x5 x6 x7 : Int32}
    (h : vp_in x5 50 ∧ (((mem 77 x5.toNatClampNeg) ≤ x7 → vp_in x5 50 ∧ (((mem 80 x5.toNatClampNeg) < 0 → vp_in x5 50 ∧ zR κ (d + 1) Y_Mo_through 6 [some (.inr 68), some (.inl x1), some (.inl x2), some (.inl x3), some (.inl (x4 + (mem 82 x5.toNatClampNeg))), some (.inl (x5 + 1)), none, none, none] [] mem Q) ∧ (¬ (mem 80 x5.toNatClampNeg) < 0 → vp_in x5 50 ∧ zR κ d Y_Mo_symbol 0 [some (.inr 68), some (.inl (768 + (mem 80 x5.toNatClampNeg))), some (.inl x3), none] [] mem (fun r m1 => r = none ∧ ((x3 = 0 → vp_in x5 50 ∧ zR κ (d + 1) Y_Mo_through 6 [some (.inr 68), some (.inl x1), some (.inl x2), some (.inl x3), some (.inl (x4 + (m1 82 x5.toNatClampNeg))), some (.inl (x5 + 1)), none, none, none] [] m1 Q) ∧ (¬ x3 = 0 → vp_in x5 50 ∧ (((m1 80 x5.toNatClampNeg) ≤ 5 → vp_in x5 50 ∧ zR κ (d + 1) Y_Mo_through 6 [some (.inr 68), some (.inl x1), some (.inl x2), some (.inl x3), some (.inl (x4 + (m1 82 x5.toNatClampNeg))), some (.inl (x5 + 1)), none, none, none] [] m1 Q) ∧ (¬ (m1 80 x5.toNatClampNeg) ≤ 5 → vp_in x5 50 ∧ vp_in x5 50 ∧ zR κ d Y_Mo_extra 0 [some (.inl (m1 80 x5.toNatClampNeg))] [] m1 (fun r m2 => ∃ y3 : Int32, r = some (.inl y3) ∧ zR κ d Y_Mo_number 0 [some (.inr 68), some (.inl (m1 81 x5.toNatClampNeg)), some (.inl y3), none] [] m2 (fun r m4 => r = none ∧ vp_in x5 50 ∧ zR κ (d + 1) Y_Mo_through 6 [some (.inr 68), some (.inl x1), some (.inl x2), some (.inl x3), some (.inl (x4 + (m4 82 x5.toNatClampNeg))), some (.inl (x5 + 1)), none, none, none] [] m4 Q)))))))))) ∧ (¬ (mem 77 x5.toNatClampNeg) ≤ x7 → ((x2 = 0 → zR κ (d + 1) Y_Mo_through 203 [some (.inr 68), some (.inl x1), some (.inl x2), some (.inl x3), some (.inl x4), some (.inl x5), some (.inl x6), some (.inl x7), some (.inl 0)] [.inl 0, .inr 68] mem Q) ∧ (¬ x2 = 0 → ((x4 ≤ 0 → zR κ (d + 1) Y_Mo_through 203 [some (.inr 68), some (.inl x1), some (.inl x2), some (.inl x3), some (.inl x4), some (.inl x5), some (.inl x6), some (.inl x7), some (.inl 0)] [.inl 0, .inr 68] mem Q) ∧ (¬ x4 ≤ 0 → vp_in (x4 - 1) 96 ∧ (((mem 69 (x4 - 1).toNatClampNeg) < 97 → zR κ (d + 1) Y_Mo_through 203 [some (.inr 68), some (.inl x1), some (.inl x2), some (.inl x3), some (.inl x4), some (.inl x5), some (.inl x6), some (.inl x7), some (.inl 0)] [.inl 0, .inr 68] mem Q) ∧ (¬ (mem 69 (x4 - 1).toNatClampNeg) < 97 → vp_in (x4 - 1) 96 ∧ ((122 < (mem 69 (x4 - 1).toNatClampNeg) → zR κ (d + 1) Y_Mo_through 203 [some (.inr 68), some (.inl x1), some (.inl x2), some (.inl x3), some (.inl x4), some (.inl x5), some (.inl x6), some (.inl x7), some (.inl 0)] [.inl 0, .inr 68] mem Q) ∧ (¬ 122 < (mem 69 (x4 - 1).toNatClampNeg) → zR κ (d + 1) Y_Mo_through 203 [some (.inr 68), some (.inl x1), some (.inl x2), some (.inl x3), some (.inl x4), some (.inl x5), some (.inl x6), some (.inl x7), some (.inl 1)] [.inl 256, .inr 68] mem Q))))))))))) : zR κ (d + 1) Y_Mo_through 134 [some (.inr 68), some (.inl x1), some (.inl x2), some (.inl x3), some (.inl x4), some (.inl x5), some (.inl x6), some (.inl x7), none] [] mem Q := by
  refine zR_iload d_Mo_through_134 rfl ?_
  refine zR_aload_n d_Mo_through_136 rfl rfl ?_
  refine zR_getR (j := 16) d_Mo_through_137 sh_68 cl_Mo rfl (by decide) g_243 ?_
  refine zR_iload d_Mo_through_140 rfl ?_
  refine zR_iaload d_Mo_through_142 sh_77 h.1 rfl ?_
  replace h := h.2
  refine zR_icmp_ge (tgt := 224) d_Mo_through_143 (by decide) (fun h1 => ?_) (fun h1 => ?_)
  · replace h := h.1 h1
    refine zR_aload_n d_Mo_through_224 rfl rfl ?_
    refine zR_getR (j := 19) d_Mo_through_225 sh_68 cl_Mo rfl (by decide) g_241 ?_
    refine zR_iload d_Mo_through_228 rfl ?_
    refine zR_iaload d_Mo_through_230 sh_80 h.1 rfl ?_
    replace h := h.2
    refine zR_if_lt (tgt := 286) d_Mo_through_231 (by decide) (fun h1 => ?_) (fun h1 => ?_)
    · replace h := h.1 h1
      refine zR_iload d_Mo_through_286 rfl ?_
      refine zR_aload_n d_Mo_through_288 rfl rfl ?_
      refine zR_getR (j := 21) d_Mo_through_289 sh_68 cl_Mo rfl (by decide) g_245 ?_
      refine zR_iload d_Mo_through_292 rfl ?_
      refine zR_iaload d_Mo_through_294 sh_82 h.1 rfl ?_
      replace h := h.2
      refine zR_iadd d_Mo_through_295 ?_
      refine zR_istore d_Mo_through_296 (by decide) ?_
      refine zR_iinc (v := 1) d_Mo_through_298 rfl (by decide) (by decide) ?_
      refine zR_goto (tgt := 6) d_Mo_through_301 (by decide) ?_
      refine zR_drop 6 ?_
      refine zR_drop 7 ?_
      exact h
    · replace h := h.2 h1
      refine zR_aload_n d_Mo_through_234 rfl rfl ?_
      refine zR_sipush (v := 768) d_Mo_through_235 (by decide) ?_
      refine zR_aload_n d_Mo_through_238 rfl rfl ?_
      refine zR_getR (j := 19) d_Mo_through_239 sh_68 cl_Mo rfl (by decide) g_241 ?_
      refine zR_iload d_Mo_through_242 rfl ?_
      refine zR_iaload d_Mo_through_244 sh_80 h.1 rfl ?_
      replace h := h.2
      refine zR_iadd d_Mo_through_245 ?_
      refine zR_iload_n d_Mo_through_246 rfl rfl ?_
      refine zR_callV (Y' := Y_Mo_symbol) (n := 2) (A := [.inl (768 + (mem 80 x5.toNatClampNeg)), .inl x3]) (b := 68) (S := []) v_Mo_symbol g_266 sh_68 cl_Mo rfl d_Mo_through_247 rfl (Nat.le_of_ble_eq_true rfl) rfl (zR_cons ?_ h)
      rintro r_ m1 ⟨rfl, h⟩
      show zR κ (d + 1) Y_Mo_through 250 [some (.inr 68), some (.inl x1), some (.inl x2), some (.inl x3), some (.inl x4), some (.inl x5), some (.inl x6), some (.inl x7), none] [] m1 Q
      refine zR_iload_n d_Mo_through_250 rfl rfl ?_
      refine zR_if_eq (tgt := 286) d_Mo_through_251 (by decide) (fun h1 => ?_) (fun h1 => ?_)
      · replace h := h.1 h1
        refine zR_iload d_Mo_through_286 rfl ?_
        refine zR_aload_n d_Mo_through_288 rfl rfl ?_
        refine zR_getR (j := 21) d_Mo_through_289 sh_68 cl_Mo rfl (by decide) g_245 ?_
        refine zR_iload d_Mo_through_292 rfl ?_
        refine zR_iaload d_Mo_through_294 sh_82 h.1 rfl ?_
        replace h := h.2
        refine zR_iadd d_Mo_through_295 ?_
        refine zR_istore d_Mo_through_296 (by decide) ?_
        refine zR_iinc (v := 1) d_Mo_through_298 rfl (by decide) (by decide) ?_
        refine zR_goto (tgt := 6) d_Mo_through_301 (by decide) ?_
        refine zR_drop 6 ?_
        refine zR_drop 7 ?_
        exact h
      · replace h := h.2 h1
        refine zR_aload_n d_Mo_through_254 rfl rfl ?_
        refine zR_getR (j := 19) d_Mo_through_255 sh_68 cl_Mo rfl (by decide) g_241 ?_
        refine zR_iload d_Mo_through_258 rfl ?_
        refine zR_iaload d_Mo_through_260 sh_80 h.1 rfl ?_
        replace h := h.2
        refine zR_iconst (v := 5) d_Mo_through_261 (by decide) ?_
        refine zR_icmp_le (tgt := 286) d_Mo_through_262 (by decide) (fun h1 => ?_) (fun h1 => ?_)
        · replace h := h.1 h1
          refine zR_iload d_Mo_through_286 rfl ?_
          refine zR_aload_n d_Mo_through_288 rfl rfl ?_
          refine zR_getR (j := 21) d_Mo_through_289 sh_68 cl_Mo rfl (by decide) g_245 ?_
          refine zR_iload d_Mo_through_292 rfl ?_
          refine zR_iaload d_Mo_through_294 sh_82 h.1 rfl ?_
          replace h := h.2
          refine zR_iadd d_Mo_through_295 ?_
          refine zR_istore d_Mo_through_296 (by decide) ?_
          refine zR_iinc (v := 1) d_Mo_through_298 rfl (by decide) (by decide) ?_
          refine zR_goto (tgt := 6) d_Mo_through_301 (by decide) ?_
          refine zR_drop 6 ?_
          refine zR_drop 7 ?_
          exact h
        · replace h := h.2 h1
          refine zR_aload_n d_Mo_through_265 rfl rfl ?_
          refine zR_aload_n d_Mo_through_266 rfl rfl ?_
          refine zR_getR (j := 20) d_Mo_through_267 sh_68 cl_Mo rfl (by decide) g_239 ?_
          refine zR_iload d_Mo_through_270 rfl ?_
          refine zR_iaload d_Mo_through_272 sh_81 h.1 rfl ?_
          replace h := h.2
          refine zR_aload_n d_Mo_through_273 rfl rfl ?_
          refine zR_getR (j := 19) d_Mo_through_274 sh_68 cl_Mo rfl (by decide) g_241 ?_
          refine zR_iload d_Mo_through_277 rfl ?_
          refine zR_iaload d_Mo_through_279 sh_80 h.1 rfl ?_
          replace h := h.2
          refine zR_callS (Y' := Y_Mo_extra) (n := 1) (A := [.inl (m1 80 x5.toNatClampNeg)]) (S := [.inl (m1 81 x5.toNatClampNeg), .inr 68]) v_Mo_extra g_269 d_Mo_through_280 rfl (Nat.le_of_ble_eq_true rfl) rfl (zR_cons ?_ h)
          rintro r_ m2 ⟨y3, rfl, h⟩
          show zR κ (d + 1) Y_Mo_through 283 [some (.inr 68), some (.inl x1), some (.inl x2), some (.inl x3), some (.inl x4), some (.inl x5), some (.inl x6), some (.inl x7), none] [.inl y3, .inl (m1 81 x5.toNatClampNeg), .inr 68] m2 Q
          refine zR_callV (Y' := Y_Mo_number) (n := 2) (A := [.inl (m1 81 x5.toNatClampNeg), .inl y3]) (b := 68) (S := []) v_Mo_number g_262 sh_68 cl_Mo rfl d_Mo_through_283 rfl (Nat.le_of_ble_eq_true rfl) rfl (zR_cons ?_ h)
          rintro r_ m4 ⟨rfl, h⟩
          show zR κ (d + 1) Y_Mo_through 286 [some (.inr 68), some (.inl x1), some (.inl x2), some (.inl x3), some (.inl x4), some (.inl x5), some (.inl x6), some (.inl x7), none] [] m4 Q
          refine zR_iload d_Mo_through_286 rfl ?_
          refine zR_aload_n d_Mo_through_288 rfl rfl ?_
          refine zR_getR (j := 21) d_Mo_through_289 sh_68 cl_Mo rfl (by decide) g_245 ?_
          refine zR_iload d_Mo_through_292 rfl ?_
          refine zR_iaload d_Mo_through_294 sh_82 h.1 rfl ?_
          replace h := h.2
          refine zR_iadd d_Mo_through_295 ?_
          refine zR_istore d_Mo_through_296 (by decide) ?_
          refine zR_iinc (v := 1) d_Mo_through_298 rfl (by decide) (by decide) ?_
          refine zR_goto (tgt := 6) d_Mo_through_301 (by decide) ?_
          refine zR_drop 6 ?_
          refine zR_drop 7 ?_
          exact h
  · replace h := h.2 h1
    refine zR_iload_n d_Mo_through_146 rfl rfl ?_
    refine zR_if_eq (tgt := 187) d_Mo_through_147 (by decide) (fun h1 => ?_) (fun h1 => ?_)
    · replace h := h.1 h1
      refine zR_iconst (v := 0) d_Mo_through_187 (by decide) ?_
      refine zR_istore d_Mo_through_188 (by decide) ?_
      refine zR_aload_n d_Mo_through_190 rfl rfl ?_
      refine zR_iload d_Mo_through_191 rfl ?_
      refine zR_if_eq (tgt := 202) d_Mo_through_193 (by decide) (fun _ => ?_) (fun h1 => absurd h1 (by decide))
      refine zR_iconst (v := 0) d_Mo_through_202 (by decide) ?_
      exact h
    · replace h := h.2 h1
      refine zR_iload d_Mo_through_150 rfl ?_
      refine zR_if_le (tgt := 187) d_Mo_through_152 (by decide) (fun h1 => ?_) (fun h1 => ?_)
      · replace h := h.1 h1
        refine zR_iconst (v := 0) d_Mo_through_187 (by decide) ?_
        refine zR_istore d_Mo_through_188 (by decide) ?_
        refine zR_aload_n d_Mo_through_190 rfl rfl ?_
        refine zR_iload d_Mo_through_191 rfl ?_
        refine zR_if_eq (tgt := 202) d_Mo_through_193 (by decide) (fun _ => ?_) (fun h1 => absurd h1 (by decide))
        refine zR_iconst (v := 0) d_Mo_through_202 (by decide) ?_
        exact h
      · replace h := h.2 h1
        refine zR_aload_n d_Mo_through_155 rfl rfl ?_
        refine zR_getR (j := 1) d_Mo_through_156 sh_68 cl_Mo rfl (by decide) g_222 ?_
        refine zR_iload d_Mo_through_159 rfl ?_
        refine zR_iconst (v := 1) d_Mo_through_161 (by decide) ?_
        refine zR_isub d_Mo_through_162 ?_
        refine zR_iaload d_Mo_through_163 sh_69 h.1 rfl ?_
        replace h := h.2
        refine zR_bipush (v := 97) d_Mo_through_164 (by decide) ?_
        refine zR_icmp_lt (tgt := 187) d_Mo_through_166 (by decide) (fun h1 => ?_) (fun h1 => ?_)
        · replace h := h.1 h1
          refine zR_iconst (v := 0) d_Mo_through_187 (by decide) ?_
          refine zR_istore d_Mo_through_188 (by decide) ?_
          refine zR_aload_n d_Mo_through_190 rfl rfl ?_
          refine zR_iload d_Mo_through_191 rfl ?_
          refine zR_if_eq (tgt := 202) d_Mo_through_193 (by decide) (fun _ => ?_) (fun h1 => absurd h1 (by decide))
          refine zR_iconst (v := 0) d_Mo_through_202 (by decide) ?_
          exact h
        · replace h := h.2 h1
          refine zR_aload_n d_Mo_through_169 rfl rfl ?_
          refine zR_getR (j := 1) d_Mo_through_170 sh_68 cl_Mo rfl (by decide) g_222 ?_
          refine zR_iload d_Mo_through_173 rfl ?_
          refine zR_iconst (v := 1) d_Mo_through_175 (by decide) ?_
          refine zR_isub d_Mo_through_176 ?_
          refine zR_iaload d_Mo_through_177 sh_69 h.1 rfl ?_
          replace h := h.2
          refine zR_bipush (v := 122) d_Mo_through_178 (by decide) ?_
          refine zR_icmp_gt (tgt := 187) d_Mo_through_180 (by decide) (fun h1 => ?_) (fun h1 => ?_)
          · replace h := h.1 h1
            refine zR_iconst (v := 0) d_Mo_through_187 (by decide) ?_
            refine zR_istore d_Mo_through_188 (by decide) ?_
            refine zR_aload_n d_Mo_through_190 rfl rfl ?_
            refine zR_iload d_Mo_through_191 rfl ?_
            refine zR_if_eq (tgt := 202) d_Mo_through_193 (by decide) (fun _ => ?_) (fun h1 => absurd h1 (by decide))
            refine zR_iconst (v := 0) d_Mo_through_202 (by decide) ?_
            exact h
          · replace h := h.2 h1
            refine zR_iconst (v := 1) d_Mo_through_183 (by decide) ?_
            refine zR_goto (tgt := 188) d_Mo_through_184 (by decide) ?_
            refine zR_istore d_Mo_through_188 (by decide) ?_
            refine zR_aload_n d_Mo_through_190 rfl rfl ?_
            refine zR_iload d_Mo_through_191 rfl ?_
            refine zR_if_eq (tgt := 202) d_Mo_through_193 (by decide) (fun h1 => absurd h1 (by decide)) (fun _ => ?_)
            refine zR_sipush (v := 256) d_Mo_through_196 (by decide) ?_
            refine zR_goto (tgt := 203) d_Mo_through_199 (by decide) ?_
            exact h
theorem w_Mo_through_203 {κ : zK} {d : Nat} {mem : zM} {Q : Option zV → zM → Prop} {x1 x2 x3 x4 x5 x6 x7 x8 s1 : Int32}
    (h : vp_in x4 96 ∧ zR κ d Y_Mo_symbol 0 [some (.inr 68), some (.inl (s1 + (mem 69 x4.toNatClampNeg))), some (.inl x3), none] [] mem (fun r m1 => r = none ∧ zR κ (d + 1) Y_Mo_through 134 [some (.inr 68), some (.inl x1), some (.inl x2), some (.inl x3), some (.inl (x4 + 1)), some (.inl x5), some (.inl x6), some (.inl (x7 + 1)), none] [] m1 Q)) : zR κ (d + 1) Y_Mo_through 203 [some (.inr 68), some (.inl x1), some (.inl x2), some (.inl x3), some (.inl x4), some (.inl x5), some (.inl x6), some (.inl x7), some (.inl x8)] [.inl s1, .inr 68] mem Q := by
  refine zR_aload_n d_Mo_through_203 rfl rfl ?_
  refine zR_getR (j := 1) d_Mo_through_204 sh_68 cl_Mo rfl (by decide) g_222 ?_
  refine zR_iload d_Mo_through_207 rfl ?_
  refine zR_iaload d_Mo_through_209 sh_69 h.1 rfl ?_
  replace h := h.2
  refine zR_iadd d_Mo_through_210 ?_
  refine zR_iload_n d_Mo_through_211 rfl rfl ?_
  refine zR_callV (Y' := Y_Mo_symbol) (n := 2) (A := [.inl (s1 + (mem 69 x4.toNatClampNeg)), .inl x3]) (b := 68) (S := []) v_Mo_symbol g_266 sh_68 cl_Mo rfl d_Mo_through_212 rfl (Nat.le_of_ble_eq_true rfl) rfl (zR_cons ?_ h)
  rintro r_ m1 ⟨rfl, h⟩
  show zR κ (d + 1) Y_Mo_through 215 [some (.inr 68), some (.inl x1), some (.inl x2), some (.inl x3), some (.inl x4), some (.inl x5), some (.inl x6), some (.inl x7), some (.inl x8)] [] m1 Q
  refine zR_iinc (v := 1) d_Mo_through_215 rfl (by decide) (by decide) ?_
  refine zR_iinc (v := 1) d_Mo_through_218 rfl (by decide) (by decide) ?_
  refine zR_goto (tgt := 134) d_Mo_through_221 (by decide) ?_
  refine zR_drop 8 ?_
  exact h
theorem w_Mo_block_0 {κ : zK} {d : Nat} {mem : zM} {Q : Option zV → zM → Prop} {x1 x2 x3 : Int32}
    (h : ((¬ x2 = (mem 68 0) → zR κ (d + 1) Y_Mo_block 26 [some (.inr 68), some (.inl x1), some (.inl x2), some (.inl x3), some (.inl 0), none] [.inl 0, .inr 68] mem Q) ∧ (x2 = (mem 68 0) → zR κ (d + 1) Y_Mo_block 26 [some (.inr 68), some (.inl x1), some (.inl x2), some (.inl x3), some (.inl 1), none] [.inl 1, .inr 68] mem Q))) : zR κ (d + 1) Y_Mo_block 0 [some (.inr 68), some (.inl x1), some (.inl x2), some (.inl x3), none, none] [] mem Q := by
  refine zR_iload_n d_Mo_block_0 rfl rfl ?_
  refine zR_aload_n d_Mo_block_1 rfl rfl ?_
  refine zR_getI (j := 0) d_Mo_block_2 sh_68 cl_Mo rfl (by decide) g_221 ?_
  refine zR_icmp_ne (tgt := 12) d_Mo_block_5 (by decide) (fun h1 => ?_) (fun h1 => ?_)
  · replace h := h.1 h1
    refine zR_iconst (v := 0) d_Mo_block_12 (by decide) ?_
    refine zR_istore d_Mo_block_13 (by decide) ?_
    refine zR_aload_n d_Mo_block_15 rfl rfl ?_
    refine zR_iload d_Mo_block_16 rfl ?_
    refine zR_if_eq (tgt := 25) d_Mo_block_18 (by decide) (fun _ => ?_) (fun h1 => absurd h1 (by decide))
    refine zR_iconst (v := 0) d_Mo_block_25 (by decide) ?_
    exact h
  · replace h := h.2 h1
    refine zR_iconst (v := 1) d_Mo_block_8 (by decide) ?_
    refine zR_goto (tgt := 13) d_Mo_block_9 (by decide) ?_
    refine zR_istore d_Mo_block_13 (by decide) ?_
    refine zR_aload_n d_Mo_block_15 rfl rfl ?_
    refine zR_iload d_Mo_block_16 rfl ?_
    refine zR_if_eq (tgt := 25) d_Mo_block_18 (by decide) (fun h1 => absurd h1 (by decide)) (fun _ => ?_)
    refine zR_iconst (v := 1) d_Mo_block_21 (by decide) ?_
    refine zR_goto (tgt := 26) d_Mo_block_22 (by decide) ?_
    exact h
theorem w_Mo_block_26 {κ : zK} {d : Nat} {mem : zM} {Q : Option zV → zM → Prop} {x1 x2 x3 x4 s1 : Int32}
    (h : zR κ d Y_Mo_number 0 [some (.inr 68), some (.inl s1), some (.inl 1), none] [] mem (fun r m1 => r = none ∧ ((x4 = 0 → ((x3 ≤ 0 → zR κ (d + 1) Y_Mo_block 51 [some (.inr 68), some (.inl x1), some (.inl x2), some (.inl x3), some (.inl x4), none] [.inl 0, .inr 68] m1 Q) ∧ (¬ x3 ≤ 0 → zR κ (d + 1) Y_Mo_block 51 [some (.inr 68), some (.inl x1), some (.inl x2), some (.inl x3), some (.inl x4), none] [.inl 1, .inr 68] m1 Q))) ∧ (¬ x4 = 0 → zR κ d Y_Mo_number 0 [some (.inr 68), some (.inl 0), some (.inl 1), none] [] m1 (fun r m2 => r = none ∧ ((x3 ≤ 0 → zR κ (d + 1) Y_Mo_block 51 [some (.inr 68), some (.inl x1), some (.inl x2), some (.inl x3), some (.inl x4), none] [.inl 0, .inr 68] m2 Q) ∧ (¬ x3 ≤ 0 → zR κ (d + 1) Y_Mo_block 51 [some (.inr 68), some (.inl x1), some (.inl x2), some (.inl x3), some (.inl x4), none] [.inl 1, .inr 68] m2 Q))))))) : zR κ (d + 1) Y_Mo_block 26 [some (.inr 68), some (.inl x1), some (.inl x2), some (.inl x3), some (.inl x4), none] [.inl s1, .inr 68] mem Q := by
  refine zR_iconst (v := 1) d_Mo_block_26 (by decide) ?_
  refine zR_callV (Y' := Y_Mo_number) (n := 2) (A := [.inl s1, .inl 1]) (b := 68) (S := []) v_Mo_number g_262 sh_68 cl_Mo rfl d_Mo_block_27 rfl (Nat.le_of_ble_eq_true rfl) rfl (zR_cons ?_ h)
  rintro r_ m1 ⟨rfl, h⟩
  show zR κ (d + 1) Y_Mo_block 30 [some (.inr 68), some (.inl x1), some (.inl x2), some (.inl x3), some (.inl x4), none] [] m1 Q
  refine zR_iload d_Mo_block_30 rfl ?_
  refine zR_if_eq (tgt := 41) d_Mo_block_32 (by decide) (fun h1 => ?_) (fun h1 => ?_)
  · replace h := h.1 h1
    refine zR_aload_n d_Mo_block_41 rfl rfl ?_
    refine zR_iload_n d_Mo_block_42 rfl rfl ?_
    refine zR_if_le (tgt := 50) d_Mo_block_43 (by decide) (fun h1 => ?_) (fun h1 => ?_)
    · replace h := h.1 h1
      refine zR_iconst (v := 0) d_Mo_block_50 (by decide) ?_
      exact h
    · replace h := h.2 h1
      refine zR_iconst (v := 1) d_Mo_block_46 (by decide) ?_
      refine zR_goto (tgt := 51) d_Mo_block_47 (by decide) ?_
      exact h
  · replace h := h.2 h1
    refine zR_aload_n d_Mo_block_35 rfl rfl ?_
    refine zR_iconst (v := 0) d_Mo_block_36 (by decide) ?_
    refine zR_iconst (v := 1) d_Mo_block_37 (by decide) ?_
    refine zR_callV (Y' := Y_Mo_number) (n := 2) (A := [.inl 0, .inl 1]) (b := 68) (S := []) v_Mo_number g_262 sh_68 cl_Mo rfl d_Mo_block_38 rfl (Nat.le_of_ble_eq_true rfl) rfl (zR_cons ?_ h)
    rintro r_ m2 ⟨rfl, h⟩
    show zR κ (d + 1) Y_Mo_block 41 [some (.inr 68), some (.inl x1), some (.inl x2), some (.inl x3), some (.inl x4), none] [] m2 Q
    refine zR_aload_n d_Mo_block_41 rfl rfl ?_
    refine zR_iload_n d_Mo_block_42 rfl rfl ?_
    refine zR_if_le (tgt := 50) d_Mo_block_43 (by decide) (fun h1 => ?_) (fun h1 => ?_)
    · replace h := h.1 h1
      refine zR_iconst (v := 0) d_Mo_block_50 (by decide) ?_
      exact h
    · replace h := h.2 h1
      refine zR_iconst (v := 1) d_Mo_block_46 (by decide) ?_
      refine zR_goto (tgt := 51) d_Mo_block_47 (by decide) ?_
      exact h
theorem w_Mo_block_51 {κ : zK} {d : Nat} {mem : zM} {Q : Option zV → zM → Prop} {x1 x2 x3 x4 s1 : Int32}
    (h : zR κ d Y_Mo_number 0 [some (.inr 68), some (.inl s1), some (.inl 1), none] [] mem (fun r m1 => r = none ∧ zR κ d Y_Mo_number 0 [some (.inr 68), some (.inl ((x2 - x1) - 1)), some (.inl 6), none] [] m1 (fun r m2 => r = none ∧ ((¬ x3 = 0 → zR κ d Y_Mo_number 0 [some (.inr 68), some (.inl (x3 - 1)), some (.inl 1), none] [] m2 (fun r m3 => r = none ∧ zR κ d Y_Mo_forget 0 [some (.inr 68), none] [] m3 (fun r m4 => r = none ∧ ((¬ x3 = 2 → zR κ (d + 1) Y_Mo_block 142 [some (.inr 68), some (.inl x1), some (.inl x2), some (.inl x3), some (.inl x4), none] [.inl 0, .inl x1, .inr 68] m4 Q) ∧ (x3 = 2 → zR κ (d + 1) Y_Mo_block 142 [some (.inr 68), some (.inl x1), some (.inl x2), some (.inl x3), some (.inl x4), none] [.inl 1, .inl x1, .inr 68] m4 Q))))) ∧ (x3 = 0 → zR κ (d + 1) Y_Mo_block 70 [some (.inr 68), some (.inl x1), some (.inl x2), some (.inl x3), some (.inl x4), none] [] m2 Q))))) : zR κ (d + 1) Y_Mo_block 51 [some (.inr 68), some (.inl x1), some (.inl x2), some (.inl x3), some (.inl x4), none] [.inl s1, .inr 68] mem Q := by
  refine zR_iconst (v := 1) d_Mo_block_51 (by decide) ?_
  refine zR_callV (Y' := Y_Mo_number) (n := 2) (A := [.inl s1, .inl 1]) (b := 68) (S := []) v_Mo_number g_262 sh_68 cl_Mo rfl d_Mo_block_52 rfl (Nat.le_of_ble_eq_true rfl) rfl (zR_cons ?_ h)
  rintro r_ m1 ⟨rfl, h⟩
  show zR κ (d + 1) Y_Mo_block 55 [some (.inr 68), some (.inl x1), some (.inl x2), some (.inl x3), some (.inl x4), none] [] m1 Q
  refine zR_aload_n d_Mo_block_55 rfl rfl ?_
  refine zR_iload_n d_Mo_block_56 rfl rfl ?_
  refine zR_iload_n d_Mo_block_57 rfl rfl ?_
  refine zR_isub d_Mo_block_58 ?_
  refine zR_iconst (v := 1) d_Mo_block_59 (by decide) ?_
  refine zR_isub d_Mo_block_60 ?_
  refine zR_bipush (v := 6) d_Mo_block_61 (by decide) ?_
  refine zR_callV (Y' := Y_Mo_number) (n := 2) (A := [.inl ((x2 - x1) - 1), .inl 6]) (b := 68) (S := []) v_Mo_number g_262 sh_68 cl_Mo rfl d_Mo_block_63 rfl (Nat.le_of_ble_eq_true rfl) rfl (zR_cons ?_ h)
  rintro r_ m2 ⟨rfl, h⟩
  show zR κ (d + 1) Y_Mo_block 66 [some (.inr 68), some (.inl x1), some (.inl x2), some (.inl x3), some (.inl x4), none] [] m2 Q
  refine zR_iload_n d_Mo_block_66 rfl rfl ?_
  refine zR_if_ne (tgt := 118) d_Mo_block_67 (by decide) (fun h1 => ?_) (fun h1 => ?_)
  · replace h := h.1 h1
    refine zR_aload_n d_Mo_block_118 rfl rfl ?_
    refine zR_iload_n d_Mo_block_119 rfl rfl ?_
    refine zR_iconst (v := 1) d_Mo_block_120 (by decide) ?_
    refine zR_isub d_Mo_block_121 ?_
    refine zR_iconst (v := 1) d_Mo_block_122 (by decide) ?_
    refine zR_callV (Y' := Y_Mo_number) (n := 2) (A := [.inl (x3 - 1), .inl 1]) (b := 68) (S := []) v_Mo_number g_262 sh_68 cl_Mo rfl d_Mo_block_123 rfl (Nat.le_of_ble_eq_true rfl) rfl (zR_cons ?_ h)
    rintro r_ m3 ⟨rfl, h⟩
    show zR κ (d + 1) Y_Mo_block 126 [some (.inr 68), some (.inl x1), some (.inl x2), some (.inl x3), some (.inl x4), none] [] m3 Q
    refine zR_aload_n d_Mo_block_126 rfl rfl ?_
    refine zR_callV (Y' := Y_Mo_forget) (n := 0) (A := []) (b := 68) (S := []) v_Mo_forget g_270 sh_68 cl_Mo rfl d_Mo_block_127 rfl (Nat.le_of_ble_eq_true rfl) rfl (zR_cons ?_ h)
    rintro r_ m4 ⟨rfl, h⟩
    show zR κ (d + 1) Y_Mo_block 130 [some (.inr 68), some (.inl x1), some (.inl x2), some (.inl x3), some (.inl x4), none] [] m4 Q
    refine zR_aload_n d_Mo_block_130 rfl rfl ?_
    refine zR_iload_n d_Mo_block_131 rfl rfl ?_
    refine zR_iload_n d_Mo_block_132 rfl rfl ?_
    refine zR_iconst (v := 2) d_Mo_block_133 (by decide) ?_
    refine zR_icmp_ne (tgt := 141) d_Mo_block_134 (by decide) (fun h1 => ?_) (fun h1 => ?_)
    · replace h := h.1 h1
      refine zR_iconst (v := 0) d_Mo_block_141 (by decide) ?_
      exact h
    · replace h := h.2 h1
      refine zR_iconst (v := 1) d_Mo_block_137 (by decide) ?_
      refine zR_goto (tgt := 142) d_Mo_block_138 (by decide) ?_
      exact h
  · replace h := h.2 h1
    exact h
theorem w_Mo_block_70 {κ : zK} {d : Nat} {mem : zM} {Q : Option zV → zM → Prop} {x1 x2 x3 x4 : Int32}
    (h : ((((mem 68 8) - (mem 68 8) / 8 * 8) ≤ 0 → zR κ (d + 1) Y_Mo_block 92 [some (.inr 68), some (.inl x1), some (.inl x2), some (.inl x3), some (.inl x4), some (.inl x1)] [] mem Q) ∧ (¬ ((mem 68 8) - (mem 68 8) / 8 * 8) ≤ 0 → zR κ d Y_Mo_number 0 [some (.inr 68), some (.inl 0), some (.inl 1), none] [] mem (fun r m1 => r = none ∧ zR κ (d + 1) Y_Mo_block 70 [some (.inr 68), some (.inl x1), some (.inl x2), some (.inl x3), some (.inl x4), none] [] m1 Q)))) : zR κ (d + 1) Y_Mo_block 70 [some (.inr 68), some (.inl x1), some (.inl x2), some (.inl x3), some (.inl x4), none] [] mem Q := by
  refine zR_aload_n d_Mo_block_70 rfl rfl ?_
  refine zR_getI (j := 8) d_Mo_block_71 sh_68 cl_Mo rfl (by decide) g_258 ?_
  refine zR_bipush (v := 8) d_Mo_block_74 (by decide) ?_
  refine zR_irem d_Mo_block_76 (by decide) ?_
  refine zR_if_le (tgt := 89) d_Mo_block_77 (by decide) (fun h1 => ?_) (fun h1 => ?_)
  · replace h := h.1 h1
    refine zR_iload_n d_Mo_block_89 rfl rfl ?_
    refine zR_istore d_Mo_block_90 (by decide) ?_
    exact h
  · replace h := h.2 h1
    refine zR_aload_n d_Mo_block_80 rfl rfl ?_
    refine zR_iconst (v := 0) d_Mo_block_81 (by decide) ?_
    refine zR_iconst (v := 1) d_Mo_block_82 (by decide) ?_
    refine zR_callV (Y' := Y_Mo_number) (n := 2) (A := [.inl 0, .inl 1]) (b := 68) (S := []) v_Mo_number g_262 sh_68 cl_Mo rfl d_Mo_block_83 rfl (Nat.le_of_ble_eq_true rfl) rfl (zR_cons ?_ h)
    rintro r_ m1 ⟨rfl, h⟩
    show zR κ (d + 1) Y_Mo_block 86 [some (.inr 68), some (.inl x1), some (.inl x2), some (.inl x3), some (.inl x4), none] [] m1 Q
    refine zR_goto (tgt := 70) d_Mo_block_86 (by decide) ?_
    exact h
theorem w_Mo_block_92 {κ : zK} {d : Nat} {mem : zM} {Q : Option zV → zM → Prop} {x1 x2 x3 x4 x5 : Int32}
    (h : ((x2 ≤ x5 → Q none mem) ∧ (¬ x2 ≤ x5 → vp_in x5 96 ∧ zR κ d Y_Mo_number 0 [some (.inr 68), some (.inl (mem 69 x5.toNatClampNeg)), some (.inl 8), none] [] mem (fun r m1 => r = none ∧ zR κ (d + 1) Y_Mo_block 92 [some (.inr 68), some (.inl x1), some (.inl x2), some (.inl x3), some (.inl x4), some (.inl (x5 + 1))] [] m1 Q)))) : zR κ (d + 1) Y_Mo_block 92 [some (.inr 68), some (.inl x1), some (.inl x2), some (.inl x3), some (.inl x4), some (.inl x5)] [] mem Q := by
  refine zR_iload d_Mo_block_92 rfl ?_
  refine zR_iload_n d_Mo_block_94 rfl rfl ?_
  refine zR_icmp_ge (tgt := 117) d_Mo_block_95 (by decide) (fun h1 => ?_) (fun h1 => ?_)
  · replace h := h.1 h1
    exact zR_return rfl d_Mo_block_117 h
  · replace h := h.2 h1
    refine zR_aload_n d_Mo_block_98 rfl rfl ?_
    refine zR_aload_n d_Mo_block_99 rfl rfl ?_
    refine zR_getR (j := 1) d_Mo_block_100 sh_68 cl_Mo rfl (by decide) g_222 ?_
    refine zR_iload d_Mo_block_103 rfl ?_
    refine zR_iaload d_Mo_block_105 sh_69 h.1 rfl ?_
    replace h := h.2
    refine zR_bipush (v := 8) d_Mo_block_106 (by decide) ?_
    refine zR_callV (Y' := Y_Mo_number) (n := 2) (A := [.inl (mem 69 x5.toNatClampNeg), .inl 8]) (b := 68) (S := []) v_Mo_number g_262 sh_68 cl_Mo rfl d_Mo_block_108 rfl (Nat.le_of_ble_eq_true rfl) rfl (zR_cons ?_ h)
    rintro r_ m1 ⟨rfl, h⟩
    show zR κ (d + 1) Y_Mo_block 111 [some (.inr 68), some (.inl x1), some (.inl x2), some (.inl x3), some (.inl x4), some (.inl x5)] [] m1 Q
    refine zR_iinc (v := 1) d_Mo_block_111 rfl (by decide) (by decide) ?_
    refine zR_goto (tgt := 92) d_Mo_block_114 (by decide) ?_
    exact h
theorem w_Mo_block_142 {κ : zK} {d : Nat} {mem : zM} {Q : Option zV → zM → Prop} {x1 x2 x3 x4 s1 s2 : Int32}
    (h : zR κ d Y_Mo_through 0 [some (.inr 68), some (.inl s1), some (.inl s2), some (.inl 0), none, none, none, none, none] [] mem (fun r m1 => r = none ∧ zR κ d Y_Mo_describe 0 [some (.inr 68), some (.inl 0), none, none, none, none, none] [] m1 (fun r m2 => r = none ∧ ((¬ x3 = 2 → zR κ (d + 1) Y_Mo_block 163 [some (.inr 68), some (.inl x1), some (.inl x2), some (.inl x3), some (.inl x4), none] [] m2 Q) ∧ (x3 = 2 → zR κ d Y_Mo_describe 0 [some (.inr 68), some (.inl 256), none, none, none, none, none] [] m2 (fun r m3 => r = none ∧ zR κ (d + 1) Y_Mo_block 163 [some (.inr 68), some (.inl x1), some (.inl x2), some (.inl x3), some (.inl x4), none] [] m3 Q)))))) : zR κ (d + 1) Y_Mo_block 142 [some (.inr 68), some (.inl x1), some (.inl x2), some (.inl x3), some (.inl x4), none] [.inl s2, .inl s1, .inr 68] mem Q := by
  refine zR_iconst (v := 0) d_Mo_block_142 (by decide) ?_
  refine zR_callV (Y' := Y_Mo_through) (n := 3) (A := [.inl s1, .inl s2, .inl 0]) (b := 68) (S := []) v_Mo_through g_271 sh_68 cl_Mo rfl d_Mo_block_143 rfl (Nat.le_of_ble_eq_true rfl) rfl (zR_cons ?_ h)
  rintro r_ m1 ⟨rfl, h⟩
  show zR κ (d + 1) Y_Mo_block 146 [some (.inr 68), some (.inl x1), some (.inl x2), some (.inl x3), some (.inl x4), none] [] m1 Q
  refine zR_aload_n d_Mo_block_146 rfl rfl ?_
  refine zR_iconst (v := 0) d_Mo_block_147 (by decide) ?_
  refine zR_callV (Y' := Y_Mo_describe) (n := 1) (A := [.inl 0]) (b := 68) (S := []) v_Mo_describe g_272 sh_68 cl_Mo rfl d_Mo_block_148 rfl (Nat.le_of_ble_eq_true rfl) rfl (zR_cons ?_ h)
  rintro r_ m2 ⟨rfl, h⟩
  show zR κ (d + 1) Y_Mo_block 151 [some (.inr 68), some (.inl x1), some (.inl x2), some (.inl x3), some (.inl x4), none] [] m2 Q
  refine zR_iload_n d_Mo_block_151 rfl rfl ?_
  refine zR_iconst (v := 2) d_Mo_block_152 (by decide) ?_
  refine zR_icmp_ne (tgt := 163) d_Mo_block_153 (by decide) (fun h1 => ?_) (fun h1 => ?_)
  · replace h := h.1 h1
    exact h
  · replace h := h.2 h1
    refine zR_aload_n d_Mo_block_156 rfl rfl ?_
    refine zR_sipush (v := 256) d_Mo_block_157 (by decide) ?_
    refine zR_callV (Y' := Y_Mo_describe) (n := 1) (A := [.inl 256]) (b := 68) (S := []) v_Mo_describe g_272 sh_68 cl_Mo rfl d_Mo_block_160 rfl (Nat.le_of_ble_eq_true rfl) rfl (zR_cons ?_ h)
    rintro r_ m3 ⟨rfl, h⟩
    show zR κ (d + 1) Y_Mo_block 163 [some (.inr 68), some (.inl x1), some (.inl x2), some (.inl x3), some (.inl x4), none] [] m3 Q
    exact h
theorem w_Mo_block_163 {κ : zK} {d : Nat} {mem : zM} {Q : Option zV → zM → Prop} {x1 x2 x3 x4 : Int32}
    (h : zR κ d Y_Mo_describe 0 [some (.inr 68), some (.inl 512), none, none, none, none, none] [] mem (fun r m1 => r = none ∧ zR κ d Y_Mo_describe 0 [some (.inr 68), some (.inl 768), none, none, none, none, none] [] m1 (fun r m2 => r = none ∧ ((¬ x3 = 2 → zR κ d Y_Mo_through 0 [some (.inr 68), some (.inl x1), some (.inl 0), some (.inl 1), none, none, none, none, none] [] m2 (fun r m3 => r = none ∧ Q none m3)) ∧ (x3 = 2 → zR κ d Y_Mo_through 0 [some (.inr 68), some (.inl x1), some (.inl 1), some (.inl 1), none, none, none, none, none] [] m2 (fun r m4 => r = none ∧ Q none m4)))))) : zR κ (d + 1) Y_Mo_block 163 [some (.inr 68), some (.inl x1), some (.inl x2), some (.inl x3), some (.inl x4), none] [] mem Q := by
  refine zR_aload_n d_Mo_block_163 rfl rfl ?_
  refine zR_sipush (v := 512) d_Mo_block_164 (by decide) ?_
  refine zR_callV (Y' := Y_Mo_describe) (n := 1) (A := [.inl 512]) (b := 68) (S := []) v_Mo_describe g_272 sh_68 cl_Mo rfl d_Mo_block_167 rfl (Nat.le_of_ble_eq_true rfl) rfl (zR_cons ?_ h)
  rintro r_ m1 ⟨rfl, h⟩
  show zR κ (d + 1) Y_Mo_block 170 [some (.inr 68), some (.inl x1), some (.inl x2), some (.inl x3), some (.inl x4), none] [] m1 Q
  refine zR_aload_n d_Mo_block_170 rfl rfl ?_
  refine zR_sipush (v := 768) d_Mo_block_171 (by decide) ?_
  refine zR_callV (Y' := Y_Mo_describe) (n := 1) (A := [.inl 768]) (b := 68) (S := []) v_Mo_describe g_272 sh_68 cl_Mo rfl d_Mo_block_174 rfl (Nat.le_of_ble_eq_true rfl) rfl (zR_cons ?_ h)
  rintro r_ m2 ⟨rfl, h⟩
  show zR κ (d + 1) Y_Mo_block 177 [some (.inr 68), some (.inl x1), some (.inl x2), some (.inl x3), some (.inl x4), none] [] m2 Q
  refine zR_aload_n d_Mo_block_177 rfl rfl ?_
  refine zR_iload_n d_Mo_block_178 rfl rfl ?_
  refine zR_iload_n d_Mo_block_179 rfl rfl ?_
  refine zR_iconst (v := 2) d_Mo_block_180 (by decide) ?_
  refine zR_icmp_ne (tgt := 188) d_Mo_block_181 (by decide) (fun h1 => ?_) (fun h1 => ?_)
  · replace h := h.1 h1
    refine zR_iconst (v := 0) d_Mo_block_188 (by decide) ?_
    refine zR_iconst (v := 1) d_Mo_block_189 (by decide) ?_
    refine zR_callV (Y' := Y_Mo_through) (n := 3) (A := [.inl x1, .inl 0, .inl 1]) (b := 68) (S := []) v_Mo_through g_271 sh_68 cl_Mo rfl d_Mo_block_190 rfl (Nat.le_of_ble_eq_true rfl) rfl (zR_cons ?_ h)
    rintro r_ m3 ⟨rfl, h⟩
    show zR κ (d + 1) Y_Mo_block 193 [some (.inr 68), some (.inl x1), some (.inl x2), some (.inl x3), some (.inl x4), none] [] m3 Q
    exact zR_return rfl d_Mo_block_193 h
  · replace h := h.2 h1
    refine zR_iconst (v := 1) d_Mo_block_184 (by decide) ?_
    refine zR_goto (tgt := 189) d_Mo_block_185 (by decide) ?_
    refine zR_iconst (v := 1) d_Mo_block_189 (by decide) ?_
    refine zR_callV (Y' := Y_Mo_through) (n := 3) (A := [.inl x1, .inl 1, .inl 1]) (b := 68) (S := []) v_Mo_through g_271 sh_68 cl_Mo rfl d_Mo_block_190 rfl (Nat.le_of_ble_eq_true rfl) rfl (zR_cons ?_ h)
    rintro r_ m4 ⟨rfl, h⟩
    show zR κ (d + 1) Y_Mo_block 193 [some (.inr 68), some (.inl x1), some (.inl x2), some (.inl x3), some (.inl x4), none] [] m4 Q
    exact zR_return rfl d_Mo_block_193 h
theorem w_Mo_counts_0 {κ : zK} {d : Nat} {mem : zM} {Q : Option zV → zM → Prop}
    (h : zR κ d Y_Mo_counts 22 [some (.inr 68), some (.inl 0)] [] (zms (zms (zms (zms mem 68 4 0) 68 5 0) 68 6 0) 68 7 0) Q) : zR κ d Y_Mo_counts 0 [some (.inr 68), none] [] mem Q := by
  refine zR_aload_n d_Mo_counts_0 rfl rfl ?_
  refine zR_iconst (v := 0) d_Mo_counts_1 (by decide) ?_
  refine zR_put (j := 4) (ty := .int) d_Mo_counts_2 sh_68 cl_Mo rfl (by decide) rfl (by decide +kernel) g_225 (zint _) ?_
  refine zR_aload_n d_Mo_counts_5 rfl rfl ?_
  refine zR_iconst (v := 0) d_Mo_counts_6 (by decide) ?_
  refine zR_put (j := 5) (ty := .int) d_Mo_counts_7 sh_68 cl_Mo rfl (by decide) rfl (by decide +kernel) g_226 (zint _) ?_
  refine zR_aload_n d_Mo_counts_10 rfl rfl ?_
  refine zR_iconst (v := 0) d_Mo_counts_11 (by decide) ?_
  refine zR_put (j := 6) (ty := .int) d_Mo_counts_12 sh_68 cl_Mo rfl (by decide) rfl (by decide +kernel) g_227 (zint _) ?_
  refine zR_aload_n d_Mo_counts_15 rfl rfl ?_
  refine zR_iconst (v := 0) d_Mo_counts_16 (by decide) ?_
  refine zR_put (j := 7) (ty := .int) d_Mo_counts_17 sh_68 cl_Mo rfl (by decide) rfl (by decide +kernel) g_228 (zint _) ?_
  refine zR_iconst (v := 0) d_Mo_counts_20 (by decide) ?_
  refine zR_istore_n d_Mo_counts_21 rfl (by decide) ?_
  exact h
theorem w_Mo_counts_22 {κ : zK} {d : Nat} {mem : zM} {Q : Option zV → zM → Prop} {x1 : Int32}
    (h : ((4 ≤ x1 → Q none mem) ∧ (¬ 4 ≤ x1 → vp_in x1 4 ∧ zR κ d Y_Mo_counts 22 [some (.inr 68), some (.inl (x1 + 1))] [] (zms mem 75 x1.toNatClampNeg ((1 : Int32) <<< (x1 &&& 31))) Q))) : zR κ d Y_Mo_counts 22 [some (.inr 68), some (.inl x1)] [] mem Q := by
  refine zR_iload_n d_Mo_counts_22 rfl rfl ?_
  refine zR_iconst (v := 4) d_Mo_counts_23 (by decide) ?_
  refine zR_icmp_ge (tgt := 42) d_Mo_counts_24 (by decide) (fun h1 => ?_) (fun h1 => ?_)
  · replace h := h.1 h1
    exact zR_return rfl d_Mo_counts_42 h
  · replace h := h.2 h1
    refine zR_aload_n d_Mo_counts_27 rfl rfl ?_
    refine zR_getR (j := 13) d_Mo_counts_28 sh_68 cl_Mo rfl (by decide) g_238 ?_
    refine zR_iload_n d_Mo_counts_31 rfl rfl ?_
    refine zR_iconst (v := 1) d_Mo_counts_32 (by decide) ?_
    refine zR_iload_n d_Mo_counts_33 rfl rfl ?_
    refine zR_ishl d_Mo_counts_34 rfl ?_
    refine zR_iastore d_Mo_counts_35 sh_75 h.1 rfl ?_
    replace h := h.2
    refine zR_iinc (v := 1) d_Mo_counts_36 rfl (by decide) (by decide) ?_
    refine zR_goto (tgt := 22) d_Mo_counts_39 (by decide) ?_
    exact h
theorem w_Mo_tally_0 {κ : zK} {d : Nat} {mem : zM} {Q : Option zV → zM → Prop}
    (h : zR κ d Y_Mo_tally 12 [some (.inr 68), some (.inl 0)] [] (zms mem 68 4 ((mem 68 4) + 1)) Q) : zR κ d Y_Mo_tally 0 [some (.inr 68), none] [] mem Q := by
  refine zR_aload_n d_Mo_tally_0 rfl rfl ?_
  refine zR_dup d_Mo_tally_1 ?_
  refine zR_getI (j := 4) d_Mo_tally_2 sh_68 cl_Mo rfl (by decide) g_225 ?_
  refine zR_iconst (v := 1) d_Mo_tally_5 (by decide) ?_
  refine zR_iadd d_Mo_tally_6 ?_
  refine zR_put (j := 4) (ty := .int) d_Mo_tally_7 sh_68 cl_Mo rfl (by decide) rfl (by decide +kernel) g_225 (zint _) ?_
  refine zR_iconst (v := 0) d_Mo_tally_10 (by decide) ?_
  refine zR_istore_n d_Mo_tally_11 rfl (by decide) ?_
  exact h
theorem w_Mo_tally_12 {κ : zK} {d : Nat} {mem : zM} {Q : Option zV → zM → Prop} {x1 : Int32}
    (h : (((mem 68 15) ≤ x1 → Q none mem) ∧ (¬ (mem 68 15) ≤ x1 → vp_in x1 50 ∧ vp_in x1 50 ∧ (((mem 80 x1.toNatClampNeg) < 0 → zR κ d Y_Mo_tally 48 [some (.inr 68), some (.inl x1)] [.inl 0, .inl (((mem 68 7) + 1) + (mem 77 x1.toNatClampNeg)), .inr 68] mem Q) ∧ (¬ (mem 80 x1.toNatClampNeg) < 0 → zR κ d Y_Mo_tally 48 [some (.inr 68), some (.inl x1)] [.inl 1, .inl (((mem 68 7) + 1) + (mem 77 x1.toNatClampNeg)), .inr 68] mem Q))))) : zR κ d Y_Mo_tally 12 [some (.inr 68), some (.inl x1)] [] mem Q := by
  refine zR_iload_n d_Mo_tally_12 rfl rfl ?_
  refine zR_aload_n d_Mo_tally_13 rfl rfl ?_
  refine zR_getI (j := 15) d_Mo_tally_14 sh_68 cl_Mo rfl (by decide) g_240 ?_
  refine zR_icmp_ge (tgt := 108) d_Mo_tally_17 (by decide) (fun h1 => ?_) (fun h1 => ?_)
  · replace h := h.1 h1
    exact zR_return rfl d_Mo_tally_108 h
  · replace h := h.2 h1
    refine zR_aload_n d_Mo_tally_20 rfl rfl ?_
    refine zR_aload_n d_Mo_tally_21 rfl rfl ?_
    refine zR_getI (j := 7) d_Mo_tally_22 sh_68 cl_Mo rfl (by decide) g_228 ?_
    refine zR_iconst (v := 1) d_Mo_tally_25 (by decide) ?_
    refine zR_iadd d_Mo_tally_26 ?_
    refine zR_aload_n d_Mo_tally_27 rfl rfl ?_
    refine zR_getR (j := 16) d_Mo_tally_28 sh_68 cl_Mo rfl (by decide) g_243 ?_
    refine zR_iload_n d_Mo_tally_31 rfl rfl ?_
    refine zR_iaload d_Mo_tally_32 sh_77 h.1 rfl ?_
    replace h := h.2
    refine zR_iadd d_Mo_tally_33 ?_
    refine zR_aload_n d_Mo_tally_34 rfl rfl ?_
    refine zR_getR (j := 19) d_Mo_tally_35 sh_68 cl_Mo rfl (by decide) g_241 ?_
    refine zR_iload_n d_Mo_tally_38 rfl rfl ?_
    refine zR_iaload d_Mo_tally_39 sh_80 h.1 rfl ?_
    replace h := h.2
    refine zR_if_lt (tgt := 47) d_Mo_tally_40 (by decide) (fun h1 => ?_) (fun h1 => ?_)
    · replace h := h.1 h1
      refine zR_iconst (v := 0) d_Mo_tally_47 (by decide) ?_
      exact h
    · replace h := h.2 h1
      refine zR_iconst (v := 1) d_Mo_tally_43 (by decide) ?_
      refine zR_goto (tgt := 48) d_Mo_tally_44 (by decide) ?_
      exact h
theorem w_Mo_tally_48 {κ : zK} {d : Nat} {mem : zM} {Q : Option zV → zM → Prop} {x1 s1 s2 : Int32}
    (h : vp_in x1 50 ∧ vp_in x1 50 ∧ (((mem 79 x1.toNatClampNeg) ≤ 0 → zR κ d Y_Mo_tally 12 [some (.inr 68), some (.inl (x1 + 1))] [] (zms (zms (zms mem 68 7 (s1 + s2)) 68 6 ((mem 68 6) + (mem 83 x1.toNatClampNeg))) 68 5 (mem 68 5)) Q) ∧ (¬ (mem 79 x1.toNatClampNeg) ≤ 0 → vp_in x1 50 ∧ ((¬ (mem 83 x1.toNatClampNeg) = 0 → zR κ d Y_Mo_tally 12 [some (.inr 68), some (.inl (x1 + 1))] [] (zms (zms (zms mem 68 7 (s1 + s2)) 68 6 ((mem 68 6) + (mem 83 x1.toNatClampNeg))) 68 5 (mem 68 5)) Q) ∧ ((mem 83 x1.toNatClampNeg) = 0 → zR κ d Y_Mo_tally 12 [some (.inr 68), some (.inl (x1 + 1))] [] (zms (zms (zms mem 68 7 (s1 + s2)) 68 6 ((mem 68 6) + (mem 83 x1.toNatClampNeg))) 68 5 ((mem 68 5) + 1)) Q))))) : zR κ d Y_Mo_tally 48 [some (.inr 68), some (.inl x1)] [.inl s2, .inl s1, .inr 68] mem Q := by
  refine zR_iadd d_Mo_tally_48 ?_
  refine zR_put (j := 7) (ty := .int) d_Mo_tally_49 sh_68 cl_Mo rfl (by decide) rfl (by decide +kernel) g_228 (zint _) ?_
  refine zR_aload_n d_Mo_tally_52 rfl rfl ?_
  refine zR_aload_n d_Mo_tally_53 rfl rfl ?_
  refine zR_getI (j := 6) d_Mo_tally_54 sh_68 cl_Mo rfl (by decide) g_227 ?_
  refine zR_aload_n d_Mo_tally_57 rfl rfl ?_
  refine zR_getR (j := 22) d_Mo_tally_58 sh_68 cl_Mo rfl (by decide) g_246 ?_
  refine zR_iload_n d_Mo_tally_61 rfl rfl ?_
  refine zR_iaload d_Mo_tally_62 sh_83 h.1 rfl ?_
  replace h := h.2
  refine zR_iadd d_Mo_tally_63 ?_
  refine zR_put (j := 6) (ty := .int) d_Mo_tally_64 sh_68 cl_Mo rfl (by decide) rfl (by decide +kernel) g_227 (zint _) ?_
  refine zR_aload_n d_Mo_tally_67 rfl rfl ?_
  refine zR_aload_n d_Mo_tally_68 rfl rfl ?_
  refine zR_getR (j := 18) d_Mo_tally_69 sh_68 cl_Mo rfl (by decide) g_244 ?_
  refine zR_iload_n d_Mo_tally_72 rfl rfl ?_
  refine zR_iaload d_Mo_tally_73 sh_79 h.1 rfl ?_
  replace h := h.2
  refine zR_if_le (tgt := 95) d_Mo_tally_74 (by decide) (fun h1 => ?_) (fun h1 => ?_)
  · replace h := h.1 h1
    refine zR_aload_n d_Mo_tally_95 rfl rfl ?_
    refine zR_getI (j := 5) d_Mo_tally_96 sh_68 cl_Mo rfl (by decide) g_226 ?_
    refine zR_put (j := 5) (ty := .int) d_Mo_tally_99 sh_68 cl_Mo rfl (by decide) rfl (by decide +kernel) g_226 (zint _) ?_
    refine zR_iinc (v := 1) d_Mo_tally_102 rfl (by decide) (by decide) ?_
    refine zR_goto (tgt := 12) d_Mo_tally_105 (by decide) ?_
    exact h
  · replace h := h.2 h1
    refine zR_aload_n d_Mo_tally_77 rfl rfl ?_
    refine zR_getR (j := 22) d_Mo_tally_78 sh_68 cl_Mo rfl (by decide) g_246 ?_
    refine zR_iload_n d_Mo_tally_81 rfl rfl ?_
    refine zR_iaload d_Mo_tally_82 sh_83 h.1 rfl ?_
    replace h := h.2
    refine zR_if_ne (tgt := 95) d_Mo_tally_83 (by decide) (fun h1 => ?_) (fun h1 => ?_)
    · replace h := h.1 h1
      refine zR_aload_n d_Mo_tally_95 rfl rfl ?_
      refine zR_getI (j := 5) d_Mo_tally_96 sh_68 cl_Mo rfl (by decide) g_226 ?_
      refine zR_put (j := 5) (ty := .int) d_Mo_tally_99 sh_68 cl_Mo rfl (by decide) rfl (by decide +kernel) g_226 (zint _) ?_
      refine zR_iinc (v := 1) d_Mo_tally_102 rfl (by decide) (by decide) ?_
      refine zR_goto (tgt := 12) d_Mo_tally_105 (by decide) ?_
      exact h
    · replace h := h.2 h1
      refine zR_aload_n d_Mo_tally_86 rfl rfl ?_
      refine zR_getI (j := 5) d_Mo_tally_87 sh_68 cl_Mo rfl (by decide) g_226 ?_
      refine zR_iconst (v := 1) d_Mo_tally_90 (by decide) ?_
      refine zR_iadd d_Mo_tally_91 ?_
      refine zR_goto (tgt := 99) d_Mo_tally_92 (by decide) ?_
      refine zR_put (j := 5) (ty := .int) d_Mo_tally_99 sh_68 cl_Mo rfl (by decide) rfl (by decide +kernel) g_226 (zint _) ?_
      refine zR_iinc (v := 1) d_Mo_tally_102 rfl (by decide) (by decide) ?_
      refine zR_goto (tgt := 12) d_Mo_tally_105 (by decide) ?_
      exact h
theorem w_Mo_choose_0 {κ : zK} {d : Nat} {mem : zM} {Q : Option zV → zM → Prop} {x1 x2 : Int32}
    (h : zR κ (d + 1) Y_Mo_choose 2 [some (.inr 68), some (.inl x1), some (.inl x2), some (.inl 0), none, none, none] [] mem Q) : zR κ (d + 1) Y_Mo_choose 0 [some (.inr 68), some (.inl x1), some (.inl x2), none, none, none, none] [] mem Q := by
  refine zR_iconst (v := 0) d_Mo_choose_0 (by decide) ?_
  refine zR_istore_n d_Mo_choose_1 rfl (by decide) ?_
  exact h
theorem w_Mo_choose_2 {κ : zK} {d : Nat} {mem : zM} {Q : Option zV → zM → Prop} {x1 x2 x3 : Int32}
    (h : ((4 ≤ x3 → zR κ d Y_Mo_parse 0 [some (.inr 68), some (.inl x1), some (.inl x2), none, none] [] mem (fun r m1 => r = none ∧ zR κ (d + 1) Y_Mo_choose 47 [some (.inr 68), some (.inl x1), some (.inl x2), some (.inl (m1 68 8)), some (.inl 0), some (.inl 4000), some (.inl 0)] [] m1 Q)) ∧ (¬ 4 ≤ x3 → vp_in x3 4 ∧ vp_in x3 4 ∧ zR κ (d + 1) Y_Mo_choose 2 [some (.inr 68), some (.inl x1), some (.inl x2), some (.inl (x3 + 1)), none, none, none] [] (zms mem 76 x3.toNatClampNeg (mem 75 x3.toNatClampNeg)) Q))) : zR κ (d + 1) Y_Mo_choose 2 [some (.inr 68), some (.inl x1), some (.inl x2), some (.inl x3), none, none, none] [] mem Q := by
  refine zR_iload_n d_Mo_choose_2 rfl rfl ?_
  refine zR_iconst (v := 4) d_Mo_choose_3 (by decide) ?_
  refine zR_icmp_ge (tgt := 25) d_Mo_choose_4 (by decide) (fun h1 => ?_) (fun h1 => ?_)
  · replace h := h.1 h1
    refine zR_aload_n d_Mo_choose_25 rfl rfl ?_
    refine zR_iload_n d_Mo_choose_26 rfl rfl ?_
    refine zR_iload_n d_Mo_choose_27 rfl rfl ?_
    refine zR_callV (Y' := Y_Mo_parse) (n := 2) (A := [.inl x1, .inl x2]) (b := 68) (S := []) v_Mo_parse g_273 sh_68 cl_Mo rfl d_Mo_choose_28 rfl (Nat.le_of_ble_eq_true rfl) rfl (zR_cons ?_ h)
    rintro r_ m1 ⟨rfl, h⟩
    show zR κ (d + 1) Y_Mo_choose 31 [some (.inr 68), some (.inl x1), some (.inl x2), some (.inl x3), none, none, none] [] m1 Q
    refine zR_aload_n d_Mo_choose_31 rfl rfl ?_
    refine zR_getI (j := 8) d_Mo_choose_32 sh_68 cl_Mo rfl (by decide) g_258 ?_
    refine zR_istore_n d_Mo_choose_35 rfl (by decide) ?_
    refine zR_iconst (v := 0) d_Mo_choose_36 (by decide) ?_
    refine zR_istore d_Mo_choose_37 (by decide) ?_
    refine zR_sipush (v := 4000) d_Mo_choose_39 (by decide) ?_
    refine zR_istore d_Mo_choose_42 (by decide) ?_
    refine zR_iconst (v := 0) d_Mo_choose_44 (by decide) ?_
    refine zR_istore d_Mo_choose_45 (by decide) ?_
    exact h
  · replace h := h.2 h1
    refine zR_aload_n d_Mo_choose_7 rfl rfl ?_
    refine zR_getR (j := 14) d_Mo_choose_8 sh_68 cl_Mo rfl (by decide) g_274 ?_
    refine zR_iload_n d_Mo_choose_11 rfl rfl ?_
    refine zR_aload_n d_Mo_choose_12 rfl rfl ?_
    refine zR_getR (j := 13) d_Mo_choose_13 sh_68 cl_Mo rfl (by decide) g_238 ?_
    refine zR_iload_n d_Mo_choose_16 rfl rfl ?_
    refine zR_iaload d_Mo_choose_17 sh_75 h.1 rfl ?_
    replace h := h.2
    refine zR_iastore d_Mo_choose_18 sh_76 h.1 rfl ?_
    replace h := h.2
    refine zR_iinc (v := 1) d_Mo_choose_19 rfl (by decide) (by decide) ?_
    refine zR_goto (tgt := 2) d_Mo_choose_22 (by decide) ?_
    exact h
theorem w_Mo_choose_47 {κ : zK} {d : Nat} {mem : zM} {Q : Option zV → zM → Prop} {x1 x2 x3 x4 x5 x6 : Int32}
    (h : ((3 ≤ x6 → zR κ d Y_Mo_block 0 [some (.inr 68), some (.inl x1), some (.inl x2), some (.inl x4), none, none] [] (zms mem 68 8 x3) (fun r m1 => r = none ∧ zR κ (d + 1) Y_Mo_choose 126 [some (.inr 68), some (.inl x1), some (.inl x2), some (.inl x3), some (.inl x4), some (.inl x5), some (.inl 0)] [] m1 Q)) ∧ (¬ 3 ≤ x6 → zR κ d Y_Mo_block 0 [some (.inr 68), some (.inl x1), some (.inl x2), some (.inl x6), none, none] [] (zms mem 68 8 x3) (fun r m2 => r = none ∧ ((x5 ≤ (m2 68 8) → zR κ (d + 1) Y_Mo_choose 82 [some (.inr 68), some (.inl x1), some (.inl x2), some (.inl x3), some (.inl x4), some (.inl x5), some (.inl x6)] [.inl x4] m2 Q) ∧ (¬ x5 ≤ (m2 68 8) → zR κ (d + 1) Y_Mo_choose 82 [some (.inr 68), some (.inl x1), some (.inl x2), some (.inl x3), some (.inl x4), some (.inl x5), some (.inl x6)] [.inl x6] m2 Q)))))) : zR κ (d + 1) Y_Mo_choose 47 [some (.inr 68), some (.inl x1), some (.inl x2), some (.inl x3), some (.inl x4), some (.inl x5), some (.inl x6)] [] mem Q := by
  refine zR_iload d_Mo_choose_47 rfl ?_
  refine zR_iconst (v := 3) d_Mo_choose_49 (by decide) ?_
  refine zR_icmp_ge (tgt := 110) d_Mo_choose_50 (by decide) (fun h1 => ?_) (fun h1 => ?_)
  · replace h := h.1 h1
    refine zR_aload_n d_Mo_choose_110 rfl rfl ?_
    refine zR_iload_n d_Mo_choose_111 rfl rfl ?_
    refine zR_put (j := 8) (ty := .int) d_Mo_choose_112 sh_68 cl_Mo rfl (by decide) rfl (by decide +kernel) g_258 (zint _) ?_
    refine zR_aload_n d_Mo_choose_115 rfl rfl ?_
    refine zR_iload_n d_Mo_choose_116 rfl rfl ?_
    refine zR_iload_n d_Mo_choose_117 rfl rfl ?_
    refine zR_iload d_Mo_choose_118 rfl ?_
    refine zR_callV (Y' := Y_Mo_block) (n := 3) (A := [.inl x1, .inl x2, .inl x4]) (b := 68) (S := []) v_Mo_block g_275 sh_68 cl_Mo rfl d_Mo_choose_120 rfl (Nat.le_of_ble_eq_true rfl) rfl (zR_cons ?_ h)
    rintro r_ m1 ⟨rfl, h⟩
    show zR κ (d + 1) Y_Mo_choose 123 [some (.inr 68), some (.inl x1), some (.inl x2), some (.inl x3), some (.inl x4), some (.inl x5), some (.inl x6)] [] m1 Q
    refine zR_iconst (v := 0) d_Mo_choose_123 (by decide) ?_
    refine zR_istore d_Mo_choose_124 (by decide) ?_
    exact h
  · replace h := h.2 h1
    refine zR_aload_n d_Mo_choose_53 rfl rfl ?_
    refine zR_iload_n d_Mo_choose_54 rfl rfl ?_
    refine zR_put (j := 8) (ty := .int) d_Mo_choose_55 sh_68 cl_Mo rfl (by decide) rfl (by decide +kernel) g_258 (zint _) ?_
    refine zR_aload_n d_Mo_choose_58 rfl rfl ?_
    refine zR_iload_n d_Mo_choose_59 rfl rfl ?_
    refine zR_iload_n d_Mo_choose_60 rfl rfl ?_
    refine zR_iload d_Mo_choose_61 rfl ?_
    refine zR_callV (Y' := Y_Mo_block) (n := 3) (A := [.inl x1, .inl x2, .inl x6]) (b := 68) (S := []) v_Mo_block g_275 sh_68 cl_Mo rfl d_Mo_choose_63 rfl (Nat.le_of_ble_eq_true rfl) rfl (zR_cons ?_ h)
    rintro r_ m2 ⟨rfl, h⟩
    show zR κ (d + 1) Y_Mo_choose 66 [some (.inr 68), some (.inl x1), some (.inl x2), some (.inl x3), some (.inl x4), some (.inl x5), some (.inl x6)] [] m2 Q
    refine zR_aload_n d_Mo_choose_66 rfl rfl ?_
    refine zR_getI (j := 8) d_Mo_choose_67 sh_68 cl_Mo rfl (by decide) g_258 ?_
    refine zR_iload d_Mo_choose_70 rfl ?_
    refine zR_icmp_ge (tgt := 80) d_Mo_choose_72 (by decide) (fun h1 => ?_) (fun h1 => ?_)
    · replace h := h.1 h1
      refine zR_iload d_Mo_choose_80 rfl ?_
      exact h
    · replace h := h.2 h1
      refine zR_iload d_Mo_choose_75 rfl ?_
      refine zR_goto (tgt := 82) d_Mo_choose_77 (by decide) ?_
      exact h
theorem w_Mo_choose_82 {κ : zK} {d : Nat} {mem : zM} {Q : Option zV → zM → Prop} {x1 x2 x3 x4 x5 x6 s0 : Int32}
    (h : ((x5 ≤ (mem 68 8) → zR κ (d + 1) Y_Mo_choose 47 [some (.inr 68), some (.inl x1), some (.inl x2), some (.inl x3), some (.inl s0), some (.inl x5), some (.inl (x6 + 1))] [] mem Q) ∧ (¬ x5 ≤ (mem 68 8) → zR κ (d + 1) Y_Mo_choose 47 [some (.inr 68), some (.inl x1), some (.inl x2), some (.inl x3), some (.inl s0), some (.inl (mem 68 8)), some (.inl (x6 + 1))] [] mem Q))) : zR κ (d + 1) Y_Mo_choose 82 [some (.inr 68), some (.inl x1), some (.inl x2), some (.inl x3), some (.inl x4), some (.inl x5), some (.inl x6)] [.inl s0] mem Q := by
  refine zR_istore d_Mo_choose_82 (by decide) ?_
  refine zR_aload_n d_Mo_choose_84 rfl rfl ?_
  refine zR_getI (j := 8) d_Mo_choose_85 sh_68 cl_Mo rfl (by decide) g_258 ?_
  refine zR_iload d_Mo_choose_88 rfl ?_
  refine zR_icmp_ge (tgt := 100) d_Mo_choose_90 (by decide) (fun h1 => ?_) (fun h1 => ?_)
  · replace h := h.1 h1
    refine zR_iload d_Mo_choose_100 rfl ?_
    refine zR_istore d_Mo_choose_102 (by decide) ?_
    refine zR_iinc (v := 1) d_Mo_choose_104 rfl (by decide) (by decide) ?_
    refine zR_goto (tgt := 47) d_Mo_choose_107 (by decide) ?_
    exact h
  · replace h := h.2 h1
    refine zR_aload_n d_Mo_choose_93 rfl rfl ?_
    refine zR_getI (j := 8) d_Mo_choose_94 sh_68 cl_Mo rfl (by decide) g_258 ?_
    refine zR_goto (tgt := 102) d_Mo_choose_97 (by decide) ?_
    refine zR_istore d_Mo_choose_102 (by decide) ?_
    refine zR_iinc (v := 1) d_Mo_choose_104 rfl (by decide) (by decide) ?_
    refine zR_goto (tgt := 47) d_Mo_choose_107 (by decide) ?_
    exact h
theorem w_Mo_choose_126 {κ : zK} {d : Nat} {mem : zM} {Q : Option zV → zM → Prop} {x1 x2 x3 x4 x5 x6 : Int32}
    (h : ((4 ≤ x6 → ((x4 ≤ 0 → Q none mem) ∧ (¬ x4 ≤ 0 → zR κ d Y_Mo_tally 0 [some (.inr 68), none] [] mem (fun r m1 => r = none ∧ Q none m1)))) ∧ (¬ 4 ≤ x6 → ((¬ x4 = 0 → vp_in x6 4 ∧ vp_in x6 4 ∧ zR κ (d + 1) Y_Mo_choose 126 [some (.inr 68), some (.inl x1), some (.inl x2), some (.inl x3), some (.inl x4), some (.inl x5), some (.inl (x6 + 1))] [] (zms mem 75 x6.toNatClampNeg (mem 75 x6.toNatClampNeg)) Q) ∧ (x4 = 0 → vp_in x6 4 ∧ vp_in x6 4 ∧ zR κ (d + 1) Y_Mo_choose 126 [some (.inr 68), some (.inl x1), some (.inl x2), some (.inl x3), some (.inl x4), some (.inl x5), some (.inl (x6 + 1))] [] (zms mem 75 x6.toNatClampNeg (mem 76 x6.toNatClampNeg)) Q))))) : zR κ (d + 1) Y_Mo_choose 126 [some (.inr 68), some (.inl x1), some (.inl x2), some (.inl x3), some (.inl x4), some (.inl x5), some (.inl x6)] [] mem Q := by
  refine zR_iload d_Mo_choose_126 rfl ?_
  refine zR_iconst (v := 4) d_Mo_choose_128 (by decide) ?_
  refine zR_icmp_ge (tgt := 167) d_Mo_choose_129 (by decide) (fun h1 => ?_) (fun h1 => ?_)
  · replace h := h.1 h1
    refine zR_iload d_Mo_choose_167 rfl ?_
    refine zR_if_le (tgt := 176) d_Mo_choose_169 (by decide) (fun h1 => ?_) (fun h1 => ?_)
    · replace h := h.1 h1
      exact zR_return rfl d_Mo_choose_176 h
    · replace h := h.2 h1
      refine zR_aload_n d_Mo_choose_172 rfl rfl ?_
      refine zR_callV (Y' := Y_Mo_tally) (n := 0) (A := []) (b := 68) (S := []) v_Mo_tally g_276 sh_68 cl_Mo rfl d_Mo_choose_173 rfl (Nat.le_of_ble_eq_true rfl) rfl (zR_cons ?_ h)
      rintro r_ m1 ⟨rfl, h⟩
      show zR κ (d + 1) Y_Mo_choose 176 [some (.inr 68), some (.inl x1), some (.inl x2), some (.inl x3), some (.inl x4), some (.inl x5), some (.inl x6)] [] m1 Q
      exact zR_return rfl d_Mo_choose_176 h
  · replace h := h.2 h1
    refine zR_aload_n d_Mo_choose_132 rfl rfl ?_
    refine zR_getR (j := 13) d_Mo_choose_133 sh_68 cl_Mo rfl (by decide) g_238 ?_
    refine zR_iload d_Mo_choose_136 rfl ?_
    refine zR_iload d_Mo_choose_138 rfl ?_
    refine zR_if_ne (tgt := 153) d_Mo_choose_140 (by decide) (fun h1 => ?_) (fun h1 => ?_)
    · replace h := h.1 h1
      refine zR_aload_n d_Mo_choose_153 rfl rfl ?_
      refine zR_getR (j := 13) d_Mo_choose_154 sh_68 cl_Mo rfl (by decide) g_238 ?_
      refine zR_iload d_Mo_choose_157 rfl ?_
      refine zR_iaload d_Mo_choose_159 sh_75 h.1 rfl ?_
      replace h := h.2
      refine zR_iastore d_Mo_choose_160 sh_75 h.1 rfl ?_
      replace h := h.2
      refine zR_iinc (v := 1) d_Mo_choose_161 rfl (by decide) (by decide) ?_
      refine zR_goto (tgt := 126) d_Mo_choose_164 (by decide) ?_
      exact h
    · replace h := h.2 h1
      refine zR_aload_n d_Mo_choose_143 rfl rfl ?_
      refine zR_getR (j := 14) d_Mo_choose_144 sh_68 cl_Mo rfl (by decide) g_274 ?_
      refine zR_iload d_Mo_choose_147 rfl ?_
      refine zR_iaload d_Mo_choose_149 sh_76 h.1 rfl ?_
      replace h := h.2
      refine zR_goto (tgt := 160) d_Mo_choose_150 (by decide) ?_
      refine zR_iastore d_Mo_choose_160 sh_75 h.1 rfl ?_
      replace h := h.2
      refine zR_iinc (v := 1) d_Mo_choose_161 rfl (by decide) (by decide) ?_
      refine zR_goto (tgt := 126) d_Mo_choose_164 (by decide) ?_
      exact h
theorem w_Mo_pack_0 {κ : zK} {d : Nat} {mem : zM} {Q : Option zV → zM → Prop}
    (h : zR κ d Y_Mo_counts 0 [some (.inr 68), none] [] mem (fun r m1 => r = none ∧ ((¬ (m1 68 0) = 0 → zR κ (d + 1) Y_Mo_pack 24 [some (.inr 68), some (.inl 0), none] [] (zms m1 68 8 0) Q) ∧ ((m1 68 0) = 0 → zR κ d Y_Mo_number 0 [some (.inr 68), some (.inl 3), some (.inl 2), none] [] (zms m1 68 8 0) (fun r m2 => r = none ∧ zR κ (d + 1) Y_Mo_pack 24 [some (.inr 68), some (.inl 0), none] [] m2 Q))))) : zR κ (d + 1) Y_Mo_pack 0 [some (.inr 68), none, none] [] mem Q := by
  refine zR_aload_n d_Mo_pack_0 rfl rfl ?_
  refine zR_callV (Y' := Y_Mo_counts) (n := 0) (A := []) (b := 68) (S := []) v_Mo_counts g_277 sh_68 cl_Mo rfl d_Mo_pack_1 rfl (Nat.le_of_ble_eq_true rfl) rfl (zR_cons ?_ h)
  rintro r_ m1 ⟨rfl, h⟩
  show zR κ (d + 1) Y_Mo_pack 4 [some (.inr 68), none, none] [] m1 Q
  refine zR_aload_n d_Mo_pack_4 rfl rfl ?_
  refine zR_iconst (v := 0) d_Mo_pack_5 (by decide) ?_
  refine zR_put (j := 8) (ty := .int) d_Mo_pack_6 sh_68 cl_Mo rfl (by decide) rfl (by decide +kernel) g_258 (zint _) ?_
  refine zR_aload_n d_Mo_pack_9 rfl rfl ?_
  refine zR_getI (j := 0) d_Mo_pack_10 sh_68 cl_Mo rfl (by decide) g_221 ?_
  refine zR_if_ne (tgt := 22) d_Mo_pack_13 (by decide) (fun h1 => ?_) (fun h1 => ?_)
  · replace h := h.1 h1
    refine zR_iconst (v := 0) d_Mo_pack_22 (by decide) ?_
    refine zR_istore_n d_Mo_pack_23 rfl (by decide) ?_
    exact h
  · replace h := h.2 h1
    refine zR_aload_n d_Mo_pack_16 rfl rfl ?_
    refine zR_iconst (v := 3) d_Mo_pack_17 (by decide) ?_
    refine zR_iconst (v := 2) d_Mo_pack_18 (by decide) ?_
    refine zR_callV (Y' := Y_Mo_number) (n := 2) (A := [.inl 3, .inl 2]) (b := 68) (S := []) v_Mo_number g_262 sh_68 cl_Mo rfl d_Mo_pack_19 rfl (Nat.le_of_ble_eq_true rfl) rfl (zR_cons ?_ h)
    rintro r_ m2 ⟨rfl, h⟩
    show zR κ (d + 1) Y_Mo_pack 22 [some (.inr 68), none, none] [] m2 Q
    refine zR_iconst (v := 0) d_Mo_pack_22 (by decide) ?_
    refine zR_istore_n d_Mo_pack_23 rfl (by decide) ?_
    exact h
theorem w_Mo_pack_24 {κ : zK} {d : Nat} {mem : zM} {Q : Option zV → zM → Prop} {x1 : Int32}
    (h : (((mem 68 0) ≤ x1 → zR κ (d + 1) Y_Mo_pack 65 [some (.inr 68), some (.inl x1), none] [] mem Q) ∧ (¬ (mem 68 0) ≤ x1 → (((x1 + 48) ≤ (mem 68 0) → zR κ d Y_Mo_choose 0 [some (.inr 68), some (.inl x1), some (.inl (x1 + 48)), none, none, none, none] [] mem (fun r m1 => r = none ∧ zR κ (d + 1) Y_Mo_pack 24 [some (.inr 68), some (.inl (x1 + 48)), none] [] m1 Q)) ∧ (¬ (x1 + 48) ≤ (mem 68 0) → zR κ d Y_Mo_choose 0 [some (.inr 68), some (.inl x1), some (.inl (mem 68 0)), none, none, none, none] [] mem (fun r m2 => r = none ∧ zR κ (d + 1) Y_Mo_pack 24 [some (.inr 68), some (.inl (x1 + 48)), none] [] m2 Q)))))) : zR κ (d + 1) Y_Mo_pack 24 [some (.inr 68), some (.inl x1), none] [] mem Q := by
  refine zR_iload_n d_Mo_pack_24 rfl rfl ?_
  refine zR_aload_n d_Mo_pack_25 rfl rfl ?_
  refine zR_getI (j := 0) d_Mo_pack_26 sh_68 cl_Mo rfl (by decide) g_221 ?_
  refine zR_icmp_ge (tgt := 65) d_Mo_pack_29 (by decide) (fun h1 => ?_) (fun h1 => ?_)
  · replace h := h.1 h1
    exact h
  · replace h := h.2 h1
    refine zR_aload_n d_Mo_pack_32 rfl rfl ?_
    refine zR_iload_n d_Mo_pack_33 rfl rfl ?_
    refine zR_aload_n d_Mo_pack_34 rfl rfl ?_
    refine zR_getI (j := 0) d_Mo_pack_35 sh_68 cl_Mo rfl (by decide) g_221 ?_
    refine zR_iload_n d_Mo_pack_38 rfl rfl ?_
    refine zR_bipush (v := 48) d_Mo_pack_39 (by decide) ?_
    refine zR_iadd d_Mo_pack_41 ?_
    refine zR_icmp_ge (tgt := 52) d_Mo_pack_42 (by decide) (fun h1 => ?_) (fun h1 => ?_)
    · replace h := h.1 h1
      refine zR_iload_n d_Mo_pack_52 rfl rfl ?_
      refine zR_bipush (v := 48) d_Mo_pack_53 (by decide) ?_
      refine zR_iadd d_Mo_pack_55 ?_
      refine zR_callV (Y' := Y_Mo_choose) (n := 2) (A := [.inl x1, .inl (x1 + 48)]) (b := 68) (S := []) v_Mo_choose g_278 sh_68 cl_Mo rfl d_Mo_pack_56 rfl (Nat.le_of_ble_eq_true rfl) rfl (zR_cons ?_ h)
      rintro r_ m1 ⟨rfl, h⟩
      show zR κ (d + 1) Y_Mo_pack 59 [some (.inr 68), some (.inl x1), none] [] m1 Q
      refine zR_iinc (v := 48) d_Mo_pack_59 rfl (by decide) (by decide) ?_
      refine zR_goto (tgt := 24) d_Mo_pack_62 (by decide) ?_
      exact h
    · replace h := h.2 h1
      refine zR_aload_n d_Mo_pack_45 rfl rfl ?_
      refine zR_getI (j := 0) d_Mo_pack_46 sh_68 cl_Mo rfl (by decide) g_221 ?_
      refine zR_goto (tgt := 56) d_Mo_pack_49 (by decide) ?_
      refine zR_callV (Y' := Y_Mo_choose) (n := 2) (A := [.inl x1, .inl (mem 68 0)]) (b := 68) (S := []) v_Mo_choose g_278 sh_68 cl_Mo rfl d_Mo_pack_56 rfl (Nat.le_of_ble_eq_true rfl) rfl (zR_cons ?_ h)
      rintro r_ m2 ⟨rfl, h⟩
      show zR κ (d + 1) Y_Mo_pack 59 [some (.inr 68), some (.inl x1), none] [] m2 Q
      refine zR_iinc (v := 48) d_Mo_pack_59 rfl (by decide) (by decide) ?_
      refine zR_goto (tgt := 24) d_Mo_pack_62 (by decide) ?_
      exact h
theorem w_Mo_pack_65 {κ : zK} {d : Nat} {mem : zM} {Q : Option zV → zM → Prop} {x1 : Int32}
    (h : ((((mem 68 8) - (mem 68 8) / 8 * 8) ≤ 0 → zR κ (d + 1) Y_Mo_pack 97 [some (.inr 68), some (.inl 0), none] [] (zms mem 68 2 ((mem 68 8) / 8)) Q) ∧ (¬ ((mem 68 8) - (mem 68 8) / 8 * 8) ≤ 0 → zR κ d Y_Mo_number 0 [some (.inr 68), some (.inl 0), some (.inl 1), none] [] mem (fun r m1 => r = none ∧ zR κ (d + 1) Y_Mo_pack 65 [some (.inr 68), some (.inl x1), none] [] m1 Q)))) : zR κ (d + 1) Y_Mo_pack 65 [some (.inr 68), some (.inl x1), none] [] mem Q := by
  refine zR_aload_n d_Mo_pack_65 rfl rfl ?_
  refine zR_getI (j := 8) d_Mo_pack_66 sh_68 cl_Mo rfl (by decide) g_258 ?_
  refine zR_bipush (v := 8) d_Mo_pack_69 (by decide) ?_
  refine zR_irem d_Mo_pack_71 (by decide) ?_
  refine zR_if_le (tgt := 84) d_Mo_pack_72 (by decide) (fun h1 => ?_) (fun h1 => ?_)
  · replace h := h.1 h1
    refine zR_aload_n d_Mo_pack_84 rfl rfl ?_
    refine zR_aload_n d_Mo_pack_85 rfl rfl ?_
    refine zR_getI (j := 8) d_Mo_pack_86 sh_68 cl_Mo rfl (by decide) g_258 ?_
    refine zR_bipush (v := 8) d_Mo_pack_89 (by decide) ?_
    refine zR_idiv d_Mo_pack_91 (by decide) ?_
    refine zR_put (j := 2) (ty := .int) d_Mo_pack_92 sh_68 cl_Mo rfl (by decide) rfl (by decide +kernel) g_223 (zint _) ?_
    refine zR_iconst (v := 0) d_Mo_pack_95 (by decide) ?_
    refine zR_istore_n d_Mo_pack_96 rfl (by decide) ?_
    exact h
  · replace h := h.2 h1
    refine zR_aload_n d_Mo_pack_75 rfl rfl ?_
    refine zR_iconst (v := 0) d_Mo_pack_76 (by decide) ?_
    refine zR_iconst (v := 1) d_Mo_pack_77 (by decide) ?_
    refine zR_callV (Y' := Y_Mo_number) (n := 2) (A := [.inl 0, .inl 1]) (b := 68) (S := []) v_Mo_number g_262 sh_68 cl_Mo rfl d_Mo_pack_78 rfl (Nat.le_of_ble_eq_true rfl) rfl (zR_cons ?_ h)
    rintro r_ m1 ⟨rfl, h⟩
    show zR κ (d + 1) Y_Mo_pack 81 [some (.inr 68), some (.inl x1), none] [] m1 Q
    refine zR_goto (tgt := 65) d_Mo_pack_81 (by decide) ?_
    exact h
theorem w_Mo_pack_97 {κ : zK} {d : Nat} {mem : zM} {Q : Option zV → zM → Prop} {x1 : Int32}
    (h : (((mem 68 2) ≤ x1 → Q (some (.inl (mem 68 2))) mem) ∧ (¬ (mem 68 2) ≤ x1 → vp_in x1 200 ∧ zR κ (d + 1) Y_Mo_pack 114 [some (.inr 68), some (.inl x1), some (.inl 0)] [] (zms mem 70 x1.toNatClampNeg 0) Q))) : zR κ (d + 1) Y_Mo_pack 97 [some (.inr 68), some (.inl x1), none] [] mem Q := by
  refine zR_iload_n d_Mo_pack_97 rfl rfl ?_
  refine zR_aload_n d_Mo_pack_98 rfl rfl ?_
  refine zR_getI (j := 2) d_Mo_pack_99 sh_68 cl_Mo rfl (by decide) g_223 ?_
  refine zR_icmp_ge (tgt := 158) d_Mo_pack_102 (by decide) (fun h1 => ?_) (fun h1 => ?_)
  · replace h := h.1 h1
    refine zR_aload_n d_Mo_pack_158 rfl rfl ?_
    refine zR_getI (j := 2) d_Mo_pack_159 sh_68 cl_Mo rfl (by decide) g_223 ?_
    exact zR_ireturn rfl d_Mo_pack_162 h
  · replace h := h.2 h1
    refine zR_aload_n d_Mo_pack_105 rfl rfl ?_
    refine zR_getR (j := 3) d_Mo_pack_106 sh_68 cl_Mo rfl (by decide) g_224 ?_
    refine zR_iload_n d_Mo_pack_109 rfl rfl ?_
    refine zR_iconst (v := 0) d_Mo_pack_110 (by decide) ?_
    refine zR_iastore d_Mo_pack_111 sh_70 h.1 rfl ?_
    replace h := h.2
    refine zR_iconst (v := 0) d_Mo_pack_112 (by decide) ?_
    refine zR_istore_n d_Mo_pack_113 rfl (by decide) ?_
    exact h
theorem w_Mo_pack_114 {κ : zK} {d : Nat} {mem : zM} {Q : Option zV → zM → Prop} {x1 x2 : Int32}
    (h : ((8 ≤ x2 → zR κ (d + 1) Y_Mo_pack 97 [some (.inr 68), some (.inl (x1 + 1)), none] [] mem Q) ∧ (¬ 8 ≤ x2 → vp_in x1 200 ∧ vp_in ((8 * x1) + x2) 4000 ∧ vp_in x1 200 ∧ zR κ (d + 1) Y_Mo_pack 114 [some (.inr 68), some (.inl x1), some (.inl (x2 + 1))] [] (zms mem 70 x1.toNatClampNeg ((mem 70 x1.toNatClampNeg) + ((mem 71 ((8 * x1) + x2).toNatClampNeg) <<< (x2 &&& 31)))) Q))) : zR κ (d + 1) Y_Mo_pack 114 [some (.inr 68), some (.inl x1), some (.inl x2)] [] mem Q := by
  refine zR_iload_n d_Mo_pack_114 rfl rfl ?_
  refine zR_bipush (v := 8) d_Mo_pack_115 (by decide) ?_
  refine zR_icmp_ge (tgt := 152) d_Mo_pack_117 (by decide) (fun h1 => ?_) (fun h1 => ?_)
  · replace h := h.1 h1
    refine zR_iinc (v := 1) d_Mo_pack_152 rfl (by decide) (by decide) ?_
    refine zR_goto (tgt := 97) d_Mo_pack_155 (by decide) ?_
    refine zR_drop 2 ?_
    exact h
  · replace h := h.2 h1
    refine zR_aload_n d_Mo_pack_120 rfl rfl ?_
    refine zR_getR (j := 3) d_Mo_pack_121 sh_68 cl_Mo rfl (by decide) g_224 ?_
    refine zR_iload_n d_Mo_pack_124 rfl rfl ?_
    refine zR_aload_n d_Mo_pack_125 rfl rfl ?_
    refine zR_getR (j := 3) d_Mo_pack_126 sh_68 cl_Mo rfl (by decide) g_224 ?_
    refine zR_iload_n d_Mo_pack_129 rfl rfl ?_
    refine zR_iaload d_Mo_pack_130 sh_70 h.1 rfl ?_
    replace h := h.2
    refine zR_aload_n d_Mo_pack_131 rfl rfl ?_
    refine zR_getR (j := 9) d_Mo_pack_132 sh_68 cl_Mo rfl (by decide) g_257 ?_
    refine zR_bipush (v := 8) d_Mo_pack_135 (by decide) ?_
    refine zR_iload_n d_Mo_pack_137 rfl rfl ?_
    refine zR_imul d_Mo_pack_138 ?_
    refine zR_iload_n d_Mo_pack_139 rfl rfl ?_
    refine zR_iadd d_Mo_pack_140 ?_
    refine zR_iaload d_Mo_pack_141 sh_71 h.1 rfl ?_
    replace h := h.2
    refine zR_iload_n d_Mo_pack_142 rfl rfl ?_
    refine zR_ishl d_Mo_pack_143 rfl ?_
    refine zR_iadd d_Mo_pack_144 ?_
    refine zR_iastore d_Mo_pack_145 sh_70 h.1 rfl ?_
    replace h := h.2
    refine zR_iinc (v := 1) d_Mo_pack_146 rfl (by decide) (by decide) ?_
    refine zR_goto (tgt := 114) d_Mo_pack_149 (by decide) ?_
    exact h
theorem w_Mo_take_0 {κ : zK} {d : Nat} {mem : zM} {Q : Option zV → zM → Prop} {x1 : Int32}
    (h : zR κ d Y_Mo_take 4 [some (.inr 68), some (.inl x1), some (.inl 0), some (.inl 0)] [] mem Q) : zR κ d Y_Mo_take 0 [some (.inr 68), some (.inl x1), none, none] [] mem Q := by
  refine zR_iconst (v := 0) d_Mo_take_0 (by decide) ?_
  refine zR_istore_n d_Mo_take_1 rfl (by decide) ?_
  refine zR_iconst (v := 0) d_Mo_take_2 (by decide) ?_
  refine zR_istore_n d_Mo_take_3 rfl (by decide) ?_
  exact h
theorem w_Mo_take_4 {κ : zK} {d : Nat} {mem : zM} {Q : Option zV → zM → Prop} {x1 x2 x3 : Int32}
    (h : ((x1 ≤ x3 → Q (some (.inl x2)) mem) ∧ (¬ x1 ≤ x3 → (((mem 68 8) < (8 * (mem 68 2)) → vp_in ((mem 68 8) / 8) 200 ∧ zR κ d Y_Mo_take 4 [some (.inr 68), some (.inl x1), some (.inl (x2 + ((((mem 70 ((mem 68 8) / 8).toNatClampNeg) >>> (((mem 68 8) - (mem 68 8) / 8 * 8) &&& 31)) &&& 1) <<< (x3 &&& 31)))), some (.inl (x3 + 1))] [] (zms mem 68 8 ((mem 68 8) + 1)) Q) ∧ (¬ (mem 68 8) < (8 * (mem 68 2)) → Q (some (.inl 0)) (zms mem 68 28 1)))))) : zR κ d Y_Mo_take 4 [some (.inr 68), some (.inl x1), some (.inl x2), some (.inl x3)] [] mem Q := by
  refine zR_iload_n d_Mo_take_4 rfl rfl ?_
  refine zR_iload_n d_Mo_take_5 rfl rfl ?_
  refine zR_icmp_ge (tgt := 73) d_Mo_take_6 (by decide) (fun h1 => ?_) (fun h1 => ?_)
  · replace h := h.1 h1
    refine zR_iload_n d_Mo_take_73 rfl rfl ?_
    exact zR_ireturn rfl d_Mo_take_74 h
  · replace h := h.2 h1
    refine zR_aload_n d_Mo_take_9 rfl rfl ?_
    refine zR_getI (j := 8) d_Mo_take_10 sh_68 cl_Mo rfl (by decide) g_258 ?_
    refine zR_bipush (v := 8) d_Mo_take_13 (by decide) ?_
    refine zR_aload_n d_Mo_take_15 rfl rfl ?_
    refine zR_getI (j := 2) d_Mo_take_16 sh_68 cl_Mo rfl (by decide) g_223 ?_
    refine zR_imul d_Mo_take_19 ?_
    refine zR_icmp_lt (tgt := 30) d_Mo_take_20 (by decide) (fun h1 => ?_) (fun h1 => ?_)
    · replace h := h.1 h1
      refine zR_iload_n d_Mo_take_30 rfl rfl ?_
      refine zR_aload_n d_Mo_take_31 rfl rfl ?_
      refine zR_getR (j := 3) d_Mo_take_32 sh_68 cl_Mo rfl (by decide) g_224 ?_
      refine zR_aload_n d_Mo_take_35 rfl rfl ?_
      refine zR_getI (j := 8) d_Mo_take_36 sh_68 cl_Mo rfl (by decide) g_258 ?_
      refine zR_bipush (v := 8) d_Mo_take_39 (by decide) ?_
      refine zR_idiv d_Mo_take_41 (by decide) ?_
      refine zR_iaload d_Mo_take_42 sh_70 h.1 rfl ?_
      replace h := h.2
      refine zR_aload_n d_Mo_take_43 rfl rfl ?_
      refine zR_getI (j := 8) d_Mo_take_44 sh_68 cl_Mo rfl (by decide) g_258 ?_
      refine zR_bipush (v := 8) d_Mo_take_47 (by decide) ?_
      refine zR_irem d_Mo_take_49 (by decide) ?_
      refine zR_ishr d_Mo_take_50 rfl ?_
      refine zR_iconst (v := 1) d_Mo_take_51 (by decide) ?_
      refine zR_iand d_Mo_take_52 ?_
      refine zR_iload_n d_Mo_take_53 rfl rfl ?_
      refine zR_ishl d_Mo_take_54 rfl ?_
      refine zR_iadd d_Mo_take_55 ?_
      refine zR_istore_n d_Mo_take_56 rfl (by decide) ?_
      refine zR_aload_n d_Mo_take_57 rfl rfl ?_
      refine zR_dup d_Mo_take_58 ?_
      refine zR_getI (j := 8) d_Mo_take_59 sh_68 cl_Mo rfl (by decide) g_258 ?_
      refine zR_iconst (v := 1) d_Mo_take_62 (by decide) ?_
      refine zR_iadd d_Mo_take_63 ?_
      refine zR_put (j := 8) (ty := .int) d_Mo_take_64 sh_68 cl_Mo rfl (by decide) rfl (by decide +kernel) g_258 (zint _) ?_
      refine zR_iinc (v := 1) d_Mo_take_67 rfl (by decide) (by decide) ?_
      refine zR_goto (tgt := 4) d_Mo_take_70 (by decide) ?_
      exact h
    · replace h := h.2 h1
      refine zR_aload_n d_Mo_take_23 rfl rfl ?_
      refine zR_iconst (v := 1) d_Mo_take_24 (by decide) ?_
      refine zR_put (j := 28) (ty := .boolean) d_Mo_take_25 sh_68 cl_Mo rfl (by decide) rfl (by decide +kernel) g_279 (zbool (Or.inr rfl)) ?_
      refine zR_iconst (v := 0) d_Mo_take_28 (by decide) ?_
      exact zR_ireturn rfl d_Mo_take_29 h
theorem w_Mo_pad_0 {κ : zK} {d : Nat} {mem : zM} {Q : Option zV → zM → Prop}
    (h : ((((mem 68 8) - (mem 68 8) / 8 * 8) ≤ 0 → Q none mem) ∧ (¬ ((mem 68 8) - (mem 68 8) / 8 * 8) ≤ 0 → zR κ d Y_Mo_take 0 [some (.inr 68), some (.inl 1), none, none] [] mem (fun r m1 => ∃ y2 : Int32, r = some (.inl y2) ∧ ((y2 = 1 → zR κ (d + 1) Y_Mo_pad 0 [some (.inr 68)] [] (zms m1 68 28 1) Q) ∧ (¬ y2 = 1 → (((m1 68 28) = 0 → zR κ (d + 1) Y_Mo_pad 0 [some (.inr 68)] [] (zms m1 68 28 0) Q) ∧ (¬ (m1 68 28) = 0 → zR κ (d + 1) Y_Mo_pad 0 [some (.inr 68)] [] (zms m1 68 28 1) Q)))))))) : zR κ (d + 1) Y_Mo_pad 0 [some (.inr 68)] [] mem Q := by
  refine zR_aload_n d_Mo_pad_0 rfl rfl ?_
  refine zR_getI (j := 8) d_Mo_pad_1 sh_68 cl_Mo rfl (by decide) g_258 ?_
  refine zR_bipush (v := 8) d_Mo_pad_4 (by decide) ?_
  refine zR_irem d_Mo_pad_6 (by decide) ?_
  refine zR_if_le (tgt := 38) d_Mo_pad_7 (by decide) (fun h1 => ?_) (fun h1 => ?_)
  · replace h := h.1 h1
    exact zR_return rfl d_Mo_pad_38 h
  · replace h := h.2 h1
    refine zR_aload_n d_Mo_pad_10 rfl rfl ?_
    refine zR_aload_n d_Mo_pad_11 rfl rfl ?_
    refine zR_iconst (v := 1) d_Mo_pad_12 (by decide) ?_
    refine zR_callV (Y' := Y_Mo_take) (n := 1) (A := [.inl 1]) (b := 68) (S := [.inr 68]) v_Mo_take g_280 sh_68 cl_Mo rfl d_Mo_pad_13 rfl (Nat.le_of_ble_eq_true rfl) rfl (zR_cons ?_ h)
    rintro r_ m1 ⟨y2, rfl, h⟩
    show zR κ (d + 1) Y_Mo_pad 16 [some (.inr 68)] [.inl y2, .inr 68] m1 Q
    refine zR_iconst (v := 1) d_Mo_pad_16 (by decide) ?_
    refine zR_icmp_eq (tgt := 27) d_Mo_pad_17 (by decide) (fun h1 => ?_) (fun h1 => ?_)
    · replace h := h.1 h1
      refine zR_iconst (v := 1) d_Mo_pad_27 (by decide) ?_
      refine zR_goto (tgt := 32) d_Mo_pad_28 (by decide) ?_
      refine zR_put (j := 28) (ty := .boolean) d_Mo_pad_32 sh_68 cl_Mo rfl (by decide) rfl (by decide +kernel) g_279 (zbool (Or.inr rfl)) ?_
      refine zR_goto (tgt := 0) d_Mo_pad_35 (by decide) ?_
      exact h
    · replace h := h.2 h1
      refine zR_aload_n d_Mo_pad_20 rfl rfl ?_
      refine zR_getI (j := 28) d_Mo_pad_21 sh_68 cl_Mo rfl (by decide) g_279 ?_
      refine zR_if_eq (tgt := 31) d_Mo_pad_24 (by decide) (fun h1 => ?_) (fun h1 => ?_)
      · replace h := h.1 h1
        refine zR_iconst (v := 0) d_Mo_pad_31 (by decide) ?_
        refine zR_put (j := 28) (ty := .boolean) d_Mo_pad_32 sh_68 cl_Mo rfl (by decide) rfl (by decide +kernel) g_279 (zbool (Or.inl rfl)) ?_
        refine zR_goto (tgt := 0) d_Mo_pad_35 (by decide) ?_
        exact h
      · replace h := h.2 h1
        refine zR_iconst (v := 1) d_Mo_pad_27 (by decide) ?_
        refine zR_goto (tgt := 32) d_Mo_pad_28 (by decide) ?_
        refine zR_put (j := 28) (ty := .boolean) d_Mo_pad_32 sh_68 cl_Mo rfl (by decide) rfl (by decide +kernel) g_279 (zbool (Or.inr rfl)) ?_
        refine zR_goto (tgt := 0) d_Mo_pad_35 (by decide) ?_
        exact h
theorem w_Mo_readSimple_0 {κ : zK} {d : Nat} {mem : zM} {Q : Option zV → zM → Prop} {x1 x2 : Int32}
    (h : zR κ d Y_Mo_take 0 [some (.inr 68), some (.inl 2), none, none] [] mem (fun r m1 => ∃ y2 : Int32, r = some (.inl y2) ∧ zR κ (d + 1) Y_Mo_readSimple 11 [some (.inr 68), some (.inl x1), some (.inl x2), some (.inl (y2 + 1)), some (.inl 0), none] [] m1 Q)) : zR κ (d + 1) Y_Mo_readSimple 0 [some (.inr 68), some (.inl x1), some (.inl x2), none, none, none] [] mem Q := by
  refine zR_aload_n d_Mo_readSimple_0 rfl rfl ?_
  refine zR_iconst (v := 2) d_Mo_readSimple_1 (by decide) ?_
  refine zR_callV (Y' := Y_Mo_take) (n := 1) (A := [.inl 2]) (b := 68) (S := []) v_Mo_take g_280 sh_68 cl_Mo rfl d_Mo_readSimple_2 rfl (Nat.le_of_ble_eq_true rfl) rfl (zR_cons ?_ h)
  rintro r_ m1 ⟨y2, rfl, h⟩
  show zR κ (d + 1) Y_Mo_readSimple 5 [some (.inr 68), some (.inl x1), some (.inl x2), none, none, none] [.inl y2] m1 Q
  refine zR_iconst (v := 1) d_Mo_readSimple_5 (by decide) ?_
  refine zR_iadd d_Mo_readSimple_6 ?_
  refine zR_istore_n d_Mo_readSimple_7 rfl (by decide) ?_
  refine zR_iconst (v := 0) d_Mo_readSimple_8 (by decide) ?_
  refine zR_istore d_Mo_readSimple_9 (by decide) ?_
  exact h
theorem w_Mo_readSimple_11 {κ : zK} {d : Nat} {mem : zM} {Q : Option zV → zM → Prop} {x1 x2 x3 x4 : Int32}
    (h : ((x3 ≤ x4 → Q none mem) ∧ (¬ x3 ≤ x4 → zR κ d Y_Mo_wide 0 [some (.inl x1)] [] mem (fun r m1 => ∃ y2 : Int32, r = some (.inl y2) ∧ zR κ d Y_Mo_take 0 [some (.inr 68), some (.inl y2), none, none] [] m1 (fun r m3 => ∃ y4 : Int32, r = some (.inl y4) ∧ ((x2 ≤ y4 → Q none (zms m3 68 28 1)) ∧ (¬ x2 ≤ y4 → vp_in (x1 + y4) 1024 ∧ (((m3 73 (x1 + y4).toNatClampNeg) < 0 → ((¬ x3 = 1 → ((x3 = 2 → vp_in (x1 + y4) 1024 ∧ zR κ (d + 1) Y_Mo_readSimple 11 [some (.inr 68), some (.inl x1), some (.inl x2), some (.inl x3), some (.inl (x4 + 1)), none] [] (zms m3 73 (x1 + y4).toNatClampNeg 1) Q) ∧ (¬ x3 = 2 → ((¬ x3 = 3 → vp_in (x1 + y4) 1024 ∧ zR κ (d + 1) Y_Mo_readSimple 11 [some (.inr 68), some (.inl x1), some (.inl x2), some (.inl x3), some (.inl (x4 + 1)), none] [] (zms m3 73 (x1 + y4).toNatClampNeg 2) Q) ∧ (x3 = 3 → ((¬ x4 = 0 → vp_in (x1 + y4) 1024 ∧ zR κ (d + 1) Y_Mo_readSimple 11 [some (.inr 68), some (.inl x1), some (.inl x2), some (.inl x3), some (.inl (x4 + 1)), none] [] (zms m3 73 (x1 + y4).toNatClampNeg 2) Q) ∧ (x4 = 0 → vp_in (x1 + y4) 1024 ∧ zR κ (d + 1) Y_Mo_readSimple 11 [some (.inr 68), some (.inl x1), some (.inl x2), some (.inl x3), some (.inl (x4 + 1)), none] [] (zms m3 73 (x1 + y4).toNatClampNeg 1) Q))))))) ∧ (x3 = 1 → vp_in (x1 + y4) 1024 ∧ zR κ (d + 1) Y_Mo_readSimple 11 [some (.inr 68), some (.inl x1), some (.inl x2), some (.inl x3), some (.inl (x4 + 1)), none] [] (zms m3 73 (x1 + y4).toNatClampNeg 0) Q))) ∧ (¬ (m3 73 (x1 + y4).toNatClampNeg) < 0 → Q none (zms m3 68 28 1)))))))))) : zR κ (d + 1) Y_Mo_readSimple 11 [some (.inr 68), some (.inl x1), some (.inl x2), some (.inl x3), some (.inl x4), none] [] mem Q := by
  refine zR_iload d_Mo_readSimple_11 rfl ?_
  refine zR_iload_n d_Mo_readSimple_13 rfl rfl ?_
  refine zR_icmp_ge (tgt := 95) d_Mo_readSimple_14 (by decide) (fun h1 => ?_) (fun h1 => ?_)
  · replace h := h.1 h1
    exact zR_return rfl d_Mo_readSimple_95 h
  · replace h := h.2 h1
    refine zR_aload_n d_Mo_readSimple_17 rfl rfl ?_
    refine zR_iload_n d_Mo_readSimple_18 rfl rfl ?_
    refine zR_callS (Y' := Y_Mo_wide) (n := 1) (A := [.inl x1]) (S := [.inr 68]) v_Mo_wide g_264 d_Mo_readSimple_19 rfl (Nat.le_of_ble_eq_true rfl) rfl (zR_cons ?_ h)
    rintro r_ m1 ⟨y2, rfl, h⟩
    show zR κ (d + 1) Y_Mo_readSimple 22 [some (.inr 68), some (.inl x1), some (.inl x2), some (.inl x3), some (.inl x4), none] [.inl y2, .inr 68] m1 Q
    refine zR_callV (Y' := Y_Mo_take) (n := 1) (A := [.inl y2]) (b := 68) (S := []) v_Mo_take g_280 sh_68 cl_Mo rfl d_Mo_readSimple_22 rfl (Nat.le_of_ble_eq_true rfl) rfl (zR_cons ?_ h)
    rintro r_ m3 ⟨y4, rfl, h⟩
    show zR κ (d + 1) Y_Mo_readSimple 25 [some (.inr 68), some (.inl x1), some (.inl x2), some (.inl x3), some (.inl x4), none] [.inl y4] m3 Q
    refine zR_istore d_Mo_readSimple_25 (by decide) ?_
    refine zR_iload d_Mo_readSimple_27 rfl ?_
    refine zR_iload_n d_Mo_readSimple_29 rfl rfl ?_
    refine zR_icmp_ge (tgt := 45) d_Mo_readSimple_30 (by decide) (fun h1 => ?_) (fun h1 => ?_)
    · replace h := h.1 h1
      refine zR_aload_n d_Mo_readSimple_45 rfl rfl ?_
      refine zR_iconst (v := 1) d_Mo_readSimple_46 (by decide) ?_
      refine zR_put (j := 28) (ty := .boolean) d_Mo_readSimple_47 sh_68 cl_Mo rfl (by decide) rfl (by decide +kernel) g_279 (zbool (Or.inr rfl)) ?_
      exact zR_return rfl d_Mo_readSimple_50 h
    · replace h := h.2 h1
      refine zR_aload_n d_Mo_readSimple_33 rfl rfl ?_
      refine zR_getR (j := 11) d_Mo_readSimple_34 sh_68 cl_Mo rfl (by decide) g_254 ?_
      refine zR_iload_n d_Mo_readSimple_37 rfl rfl ?_
      refine zR_iload d_Mo_readSimple_38 rfl ?_
      refine zR_iadd d_Mo_readSimple_40 ?_
      refine zR_iaload d_Mo_readSimple_41 sh_73 h.1 rfl ?_
      replace h := h.2
      refine zR_if_lt (tgt := 51) d_Mo_readSimple_42 (by decide) (fun h1 => ?_) (fun h1 => ?_)
      · replace h := h.1 h1
        refine zR_aload_n d_Mo_readSimple_51 rfl rfl ?_
        refine zR_getR (j := 11) d_Mo_readSimple_52 sh_68 cl_Mo rfl (by decide) g_254 ?_
        refine zR_iload_n d_Mo_readSimple_55 rfl rfl ?_
        refine zR_iload d_Mo_readSimple_56 rfl ?_
        refine zR_iadd d_Mo_readSimple_58 ?_
        refine zR_iload_n d_Mo_readSimple_59 rfl rfl ?_
        refine zR_iconst (v := 1) d_Mo_readSimple_60 (by decide) ?_
        refine zR_icmp_ne (tgt := 68) d_Mo_readSimple_61 (by decide) (fun h1 => ?_) (fun h1 => ?_)
        · replace h := h.1 h1
          refine zR_iload_n d_Mo_readSimple_68 rfl rfl ?_
          refine zR_iconst (v := 2) d_Mo_readSimple_69 (by decide) ?_
          refine zR_icmp_eq (tgt := 83) d_Mo_readSimple_70 (by decide) (fun h1 => ?_) (fun h1 => ?_)
          · replace h := h.1 h1
            refine zR_iconst (v := 1) d_Mo_readSimple_83 (by decide) ?_
            refine zR_goto (tgt := 88) d_Mo_readSimple_84 (by decide) ?_
            refine zR_iastore d_Mo_readSimple_88 sh_73 h.1 rfl ?_
            replace h := h.2
            refine zR_iinc (v := 1) d_Mo_readSimple_89 rfl (by decide) (by decide) ?_
            refine zR_goto (tgt := 11) d_Mo_readSimple_92 (by decide) ?_
            refine zR_drop 5 ?_
            exact h
          · replace h := h.2 h1
            refine zR_iload_n d_Mo_readSimple_73 rfl rfl ?_
            refine zR_iconst (v := 3) d_Mo_readSimple_74 (by decide) ?_
            refine zR_icmp_ne (tgt := 87) d_Mo_readSimple_75 (by decide) (fun h1 => ?_) (fun h1 => ?_)
            · replace h := h.1 h1
              refine zR_iconst (v := 2) d_Mo_readSimple_87 (by decide) ?_
              refine zR_iastore d_Mo_readSimple_88 sh_73 h.1 rfl ?_
              replace h := h.2
              refine zR_iinc (v := 1) d_Mo_readSimple_89 rfl (by decide) (by decide) ?_
              refine zR_goto (tgt := 11) d_Mo_readSimple_92 (by decide) ?_
              refine zR_drop 5 ?_
              exact h
            · replace h := h.2 h1
              refine zR_iload d_Mo_readSimple_78 rfl ?_
              refine zR_if_ne (tgt := 87) d_Mo_readSimple_80 (by decide) (fun h1 => ?_) (fun h1 => ?_)
              · replace h := h.1 h1
                refine zR_iconst (v := 2) d_Mo_readSimple_87 (by decide) ?_
                refine zR_iastore d_Mo_readSimple_88 sh_73 h.1 rfl ?_
                replace h := h.2
                refine zR_iinc (v := 1) d_Mo_readSimple_89 rfl (by decide) (by decide) ?_
                refine zR_goto (tgt := 11) d_Mo_readSimple_92 (by decide) ?_
                refine zR_drop 5 ?_
                exact h
              · replace h := h.2 h1
                refine zR_iconst (v := 1) d_Mo_readSimple_83 (by decide) ?_
                refine zR_goto (tgt := 88) d_Mo_readSimple_84 (by decide) ?_
                refine zR_iastore d_Mo_readSimple_88 sh_73 h.1 rfl ?_
                replace h := h.2
                refine zR_iinc (v := 1) d_Mo_readSimple_89 rfl (by decide) (by decide) ?_
                refine zR_goto (tgt := 11) d_Mo_readSimple_92 (by decide) ?_
                refine zR_drop 5 ?_
                exact h
        · replace h := h.2 h1
          refine zR_iconst (v := 0) d_Mo_readSimple_64 (by decide) ?_
          refine zR_goto (tgt := 88) d_Mo_readSimple_65 (by decide) ?_
          refine zR_iastore d_Mo_readSimple_88 sh_73 h.1 rfl ?_
          replace h := h.2
          refine zR_iinc (v := 1) d_Mo_readSimple_89 rfl (by decide) (by decide) ?_
          refine zR_goto (tgt := 11) d_Mo_readSimple_92 (by decide) ?_
          refine zR_drop 5 ?_
          exact h
      · replace h := h.2 h1
        refine zR_aload_n d_Mo_readSimple_45 rfl rfl ?_
        refine zR_iconst (v := 1) d_Mo_readSimple_46 (by decide) ?_
        refine zR_put (j := 28) (ty := .boolean) d_Mo_readSimple_47 sh_68 cl_Mo rfl (by decide) rfl (by decide +kernel) g_279 (zbool (Or.inr rfl)) ?_
        exact zR_return rfl d_Mo_readSimple_50 h
theorem w_Mo_readCode_0 {κ : zK} {d : Nat} {mem : zM} {Q : Option zV → zM → Prop} {x1 : Int32}
    (h : zR κ d Y_Mo_symbolsOf 0 [some (.inl x1)] [] mem (fun r m1 => ∃ y2 : Int32, r = some (.inl y2) ∧ zR κ (d + 1) Y_Mo_readCode 7 [some (.inr 68), some (.inl x1), some (.inl y2), some (.inl x1), none, none] [] m1 Q)) : zR κ (d + 1) Y_Mo_readCode 0 [some (.inr 68), some (.inl x1), none, none, none, none] [] mem Q := by
  refine zR_iload_n d_Mo_readCode_0 rfl rfl ?_
  refine zR_callS (Y' := Y_Mo_symbolsOf) (n := 1) (A := [.inl x1]) (S := []) v_Mo_symbolsOf g_259 d_Mo_readCode_1 rfl (Nat.le_of_ble_eq_true rfl) rfl (zR_cons ?_ h)
  rintro r_ m1 ⟨y2, rfl, h⟩
  show zR κ (d + 1) Y_Mo_readCode 4 [some (.inr 68), some (.inl x1), none, none, none, none] [.inl y2] m1 Q
  refine zR_istore_n d_Mo_readCode_4 rfl (by decide) ?_
  refine zR_iload_n d_Mo_readCode_5 rfl rfl ?_
  refine zR_istore_n d_Mo_readCode_6 rfl (by decide) ?_
  exact h
theorem w_Mo_readCode_7 {κ : zK} {d : Nat} {mem : zM} {Q : Option zV → zM → Prop} {x1 x2 x3 : Int32}
    (h : (((x1 + x2) ≤ x3 → zR κ d Y_Mo_take 0 [some (.inr 68), some (.inl 1), none, none] [] mem (fun r m1 => ∃ y2 : Int32, r = some (.inl y2) ∧ ((¬ y2 = 1 → zR κ (d + 1) Y_Mo_readCode 51 [some (.inr 68), some (.inl x1), some (.inl x2), some (.inl 64), some (.inl 0), none] [] m1 Q) ∧ (y2 = 1 → zR κ d Y_Mo_readSimple 0 [some (.inr 68), some (.inl x1), some (.inl x2), none, none, none] [] m1 (fun r m3 => r = none ∧ zR κ (d + 1) Y_Mo_readCode 166 [some (.inr 68), some (.inl x1), some (.inl x2), some (.inl x3), none, none] [] m3 Q))))) ∧ (¬ (x1 + x2) ≤ x3 → vp_in x3 1024 ∧ zR κ (d + 1) Y_Mo_readCode 7 [some (.inr 68), some (.inl x1), some (.inl x2), some (.inl (x3 + 1)), none, none] [] (zms mem 73 x3.toNatClampNeg (-1)) Q))) : zR κ (d + 1) Y_Mo_readCode 7 [some (.inr 68), some (.inl x1), some (.inl x2), some (.inl x3), none, none] [] mem Q := by
  refine zR_iload_n d_Mo_readCode_7 rfl rfl ?_
  refine zR_iload_n d_Mo_readCode_8 rfl rfl ?_
  refine zR_iload_n d_Mo_readCode_9 rfl rfl ?_
  refine zR_iadd d_Mo_readCode_10 ?_
  refine zR_icmp_ge (tgt := 27) d_Mo_readCode_11 (by decide) (fun h1 => ?_) (fun h1 => ?_)
  · replace h := h.1 h1
    refine zR_aload_n d_Mo_readCode_27 rfl rfl ?_
    refine zR_iconst (v := 1) d_Mo_readCode_28 (by decide) ?_
    refine zR_callV (Y' := Y_Mo_take) (n := 1) (A := [.inl 1]) (b := 68) (S := []) v_Mo_take g_280 sh_68 cl_Mo rfl d_Mo_readCode_29 rfl (Nat.le_of_ble_eq_true rfl) rfl (zR_cons ?_ h)
    rintro r_ m1 ⟨y2, rfl, h⟩
    show zR κ (d + 1) Y_Mo_readCode 32 [some (.inr 68), some (.inl x1), some (.inl x2), some (.inl x3), none, none] [.inl y2] m1 Q
    refine zR_iconst (v := 1) d_Mo_readCode_32 (by decide) ?_
    refine zR_icmp_ne (tgt := 45) d_Mo_readCode_33 (by decide) (fun h1 => ?_) (fun h1 => ?_)
    · replace h := h.1 h1
      refine zR_bipush (v := 64) d_Mo_readCode_45 (by decide) ?_
      refine zR_istore_n d_Mo_readCode_47 rfl (by decide) ?_
      refine zR_iconst (v := 0) d_Mo_readCode_48 (by decide) ?_
      refine zR_istore d_Mo_readCode_49 (by decide) ?_
      exact h
    · replace h := h.2 h1
      refine zR_aload_n d_Mo_readCode_36 rfl rfl ?_
      refine zR_iload_n d_Mo_readCode_37 rfl rfl ?_
      refine zR_iload_n d_Mo_readCode_38 rfl rfl ?_
      refine zR_callV (Y' := Y_Mo_readSimple) (n := 2) (A := [.inl x1, .inl x2]) (b := 68) (S := []) v_Mo_readSimple g_281 sh_68 cl_Mo rfl d_Mo_readCode_39 rfl (Nat.le_of_ble_eq_true rfl) rfl (zR_cons ?_ h)
      rintro r_ m3 ⟨rfl, h⟩
      show zR κ (d + 1) Y_Mo_readCode 42 [some (.inr 68), some (.inl x1), some (.inl x2), some (.inl x3), none, none] [] m3 Q
      refine zR_goto (tgt := 166) d_Mo_readCode_42 (by decide) ?_
      exact h
  · replace h := h.2 h1
    refine zR_aload_n d_Mo_readCode_14 rfl rfl ?_
    refine zR_getR (j := 11) d_Mo_readCode_15 sh_68 cl_Mo rfl (by decide) g_254 ?_
    refine zR_iload_n d_Mo_readCode_18 rfl rfl ?_
    refine zR_iconst (v := (-1)) d_Mo_readCode_19 (by decide) ?_
    refine zR_iastore d_Mo_readCode_20 sh_73 h.1 rfl ?_
    replace h := h.2
    refine zR_iinc (v := 1) d_Mo_readCode_21 rfl (by decide) (by decide) ?_
    refine zR_goto (tgt := 7) d_Mo_readCode_24 (by decide) ?_
    exact h
theorem w_Mo_readCode_51 {κ : zK} {d : Nat} {mem : zM} {Q : Option zV → zM → Prop} {x1 x2 x3 x4 : Int32}
    (h : ((x3 ≤ 0 → zR κ (d + 1) Y_Mo_readCode 140 [some (.inr 68), some (.inl x1), some (.inl x2), some (.inl x3), some (.inl x4), none] [] mem Q) ∧ (¬ x3 ≤ 0 → ((x2 ≤ x4 → zR κ (d + 1) Y_Mo_readCode 140 [some (.inr 68), some (.inl x1), some (.inl x2), some (.inl x3), some (.inl x4), none] [] mem Q) ∧ (¬ x2 ≤ x4 → ((¬ (mem 68 28) = 0 → zR κ (d + 1) Y_Mo_readCode 140 [some (.inr 68), some (.inl x1), some (.inl x2), some (.inl x3), some (.inl x4), none] [] mem Q) ∧ ((mem 68 28) = 0 → zR κ d Y_Mo_take 0 [some (.inr 68), some (.inl 3), none, none] [] mem (fun r m1 => ∃ y2 : Int32, r = some (.inl y2) ∧ ((¬ y2 = 7 → ((y2 ≤ 0 → zR κ (d + 1) Y_Mo_readCode 116 [some (.inr 68), some (.inl x1), some (.inl x2), some (.inl x3), some (.inl x4), some (.inl y2)] [.inl (-1), .inl (x1 + x4), .inr 73] m1 Q) ∧ (¬ y2 ≤ 0 → zR κ (d + 1) Y_Mo_readCode 116 [some (.inr 68), some (.inl x1), some (.inl x2), some (.inl x3), some (.inl x4), some (.inl y2)] [.inl y2, .inl (x1 + x4), .inr 73] m1 Q))) ∧ (y2 = 7 → zR κ d Y_Mo_take 0 [some (.inr 68), some (.inl 4), none, none] [] m1 (fun r m3 => ∃ y4 : Int32, r = some (.inl y4) ∧ zR κ (d + 1) Y_Mo_readCode 51 [some (.inr 68), some (.inl x1), some (.inl x2), some (.inl x3), some (.inl ((x4 + 3) + y4)), none] [] m3 Q))))))))))) : zR κ (d + 1) Y_Mo_readCode 51 [some (.inr 68), some (.inl x1), some (.inl x2), some (.inl x3), some (.inl x4), none] [] mem Q := by
  refine zR_iload_n d_Mo_readCode_51 rfl rfl ?_
  refine zR_if_le (tgt := 140) d_Mo_readCode_52 (by decide) (fun h1 => ?_) (fun h1 => ?_)
  · replace h := h.1 h1
    exact h
  · replace h := h.2 h1
    refine zR_iload d_Mo_readCode_55 rfl ?_
    refine zR_iload_n d_Mo_readCode_57 rfl rfl ?_
    refine zR_icmp_ge (tgt := 140) d_Mo_readCode_58 (by decide) (fun h1 => ?_) (fun h1 => ?_)
    · replace h := h.1 h1
      exact h
    · replace h := h.2 h1
      refine zR_aload_n d_Mo_readCode_61 rfl rfl ?_
      refine zR_getI (j := 28) d_Mo_readCode_62 sh_68 cl_Mo rfl (by decide) g_279 ?_
      refine zR_if_ne (tgt := 140) d_Mo_readCode_65 (by decide) (fun h1 => ?_) (fun h1 => ?_)
      · replace h := h.1 h1
        exact h
      · replace h := h.2 h1
        refine zR_aload_n d_Mo_readCode_68 rfl rfl ?_
        refine zR_iconst (v := 3) d_Mo_readCode_69 (by decide) ?_
        refine zR_callV (Y' := Y_Mo_take) (n := 1) (A := [.inl 3]) (b := 68) (S := []) v_Mo_take g_280 sh_68 cl_Mo rfl d_Mo_readCode_70 rfl (Nat.le_of_ble_eq_true rfl) rfl (zR_cons ?_ h)
        rintro r_ m1 ⟨y2, rfl, h⟩
        show zR κ (d + 1) Y_Mo_readCode 73 [some (.inr 68), some (.inl x1), some (.inl x2), some (.inl x3), some (.inl x4), none] [.inl y2] m1 Q
        refine zR_istore d_Mo_readCode_73 (by decide) ?_
        refine zR_iload d_Mo_readCode_75 rfl ?_
        refine zR_bipush (v := 7) d_Mo_readCode_77 (by decide) ?_
        refine zR_icmp_ne (tgt := 97) d_Mo_readCode_79 (by decide) (fun h1 => ?_) (fun h1 => ?_)
        · replace h := h.1 h1
          refine zR_aload_n d_Mo_readCode_97 rfl rfl ?_
          refine zR_getR (j := 11) d_Mo_readCode_98 sh_68 cl_Mo rfl (by decide) g_254 ?_
          refine zR_iload_n d_Mo_readCode_101 rfl rfl ?_
          refine zR_iload d_Mo_readCode_102 rfl ?_
          refine zR_iadd d_Mo_readCode_104 ?_
          refine zR_iload d_Mo_readCode_105 rfl ?_
          refine zR_if_le (tgt := 115) d_Mo_readCode_107 (by decide) (fun h1 => ?_) (fun h1 => ?_)
          · replace h := h.1 h1
            refine zR_iconst (v := (-1)) d_Mo_readCode_115 (by decide) ?_
            exact h
          · replace h := h.2 h1
            refine zR_iload d_Mo_readCode_110 rfl ?_
            refine zR_goto (tgt := 116) d_Mo_readCode_112 (by decide) ?_
            exact h
        · replace h := h.2 h1
          refine zR_iload d_Mo_readCode_82 rfl ?_
          refine zR_iconst (v := 3) d_Mo_readCode_84 (by decide) ?_
          refine zR_iadd d_Mo_readCode_85 ?_
          refine zR_aload_n d_Mo_readCode_86 rfl rfl ?_
          refine zR_iconst (v := 4) d_Mo_readCode_87 (by decide) ?_
          refine zR_callV (Y' := Y_Mo_take) (n := 1) (A := [.inl 4]) (b := 68) (S := [.inl (x4 + 3)]) v_Mo_take g_280 sh_68 cl_Mo rfl d_Mo_readCode_88 rfl (Nat.le_of_ble_eq_true rfl) rfl (zR_cons ?_ h)
          rintro r_ m3 ⟨y4, rfl, h⟩
          show zR κ (d + 1) Y_Mo_readCode 91 [some (.inr 68), some (.inl x1), some (.inl x2), some (.inl x3), some (.inl x4), some (.inl y2)] [.inl y4, .inl (x4 + 3)] m3 Q
          refine zR_iadd d_Mo_readCode_91 ?_
          refine zR_istore d_Mo_readCode_92 (by decide) ?_
          refine zR_goto (tgt := 137) d_Mo_readCode_94 (by decide) ?_
          refine zR_goto (tgt := 51) d_Mo_readCode_137 (by decide) ?_
          refine zR_drop 5 ?_
          exact h
theorem w_Mo_readCode_116 {κ : zK} {d : Nat} {mem : zM} {Q : Option zV → zM → Prop} {x1 x2 x3 x4 x5 s1 s2 : Int32}
    (h : vp_in s1 1024 ∧ ((x5 ≤ 0 → zR κ (d + 1) Y_Mo_readCode 51 [some (.inr 68), some (.inl x1), some (.inl x2), some (.inl x3), some (.inl (x4 + 1)), none] [] (zms mem 73 s1.toNatClampNeg s2) Q) ∧ (¬ x5 ≤ 0 → zR κ (d + 1) Y_Mo_readCode 51 [some (.inr 68), some (.inl x1), some (.inl x2), some (.inl (x3 - ((64 : Int32) >>> (x5 &&& 31)))), some (.inl (x4 + 1)), none] [] (zms mem 73 s1.toNatClampNeg s2) Q))) : zR κ (d + 1) Y_Mo_readCode 116 [some (.inr 68), some (.inl x1), some (.inl x2), some (.inl x3), some (.inl x4), some (.inl x5)] [.inl s2, .inl s1, .inr 73] mem Q := by
  refine zR_iastore d_Mo_readCode_116 sh_73 h.1 rfl ?_
  replace h := h.2
  refine zR_iload d_Mo_readCode_117 rfl ?_
  refine zR_if_le (tgt := 132) d_Mo_readCode_119 (by decide) (fun h1 => ?_) (fun h1 => ?_)
  · replace h := h.1 h1
    refine zR_iload_n d_Mo_readCode_132 rfl rfl ?_
    refine zR_istore_n d_Mo_readCode_133 rfl (by decide) ?_
    refine zR_iinc (v := 1) d_Mo_readCode_134 rfl (by decide) (by decide) ?_
    refine zR_goto (tgt := 51) d_Mo_readCode_137 (by decide) ?_
    refine zR_drop 5 ?_
    exact h
  · replace h := h.2 h1
    refine zR_iload_n d_Mo_readCode_122 rfl rfl ?_
    refine zR_bipush (v := 64) d_Mo_readCode_123 (by decide) ?_
    refine zR_iload d_Mo_readCode_125 rfl ?_
    refine zR_ishr d_Mo_readCode_127 rfl ?_
    refine zR_isub d_Mo_readCode_128 ?_
    refine zR_goto (tgt := 133) d_Mo_readCode_129 (by decide) ?_
    refine zR_istore_n d_Mo_readCode_133 rfl (by decide) ?_
    refine zR_iinc (v := 1) d_Mo_readCode_134 rfl (by decide) (by decide) ?_
    refine zR_goto (tgt := 51) d_Mo_readCode_137 (by decide) ?_
    refine zR_drop 5 ?_
    exact h
theorem w_Mo_readCode_140 {κ : zK} {d : Nat} {mem : zM} {Q : Option zV → zM → Prop} {x1 x2 x3 x4 : Int32}
    (h : ((¬ (mem 68 28) = 0 → zR κ (d + 1) Y_Mo_readCode 166 [some (.inr 68), some (.inl x1), some (.inl x2), some (.inl x3), none, none] [] (zms mem 68 28 1) Q) ∧ ((mem 68 28) = 0 → ((¬ x3 = 0 → zR κ (d + 1) Y_Mo_readCode 166 [some (.inr 68), some (.inl x1), some (.inl x2), some (.inl x3), none, none] [] (zms mem 68 28 1) Q) ∧ (x3 = 0 → ((x4 ≤ x2 → zR κ (d + 1) Y_Mo_readCode 166 [some (.inr 68), some (.inl x1), some (.inl x2), some (.inl x3), none, none] [] (zms mem 68 28 0) Q) ∧ (¬ x4 ≤ x2 → zR κ (d + 1) Y_Mo_readCode 166 [some (.inr 68), some (.inl x1), some (.inl x2), some (.inl x3), none, none] [] (zms mem 68 28 1) Q))))))) : zR κ (d + 1) Y_Mo_readCode 140 [some (.inr 68), some (.inl x1), some (.inl x2), some (.inl x3), some (.inl x4), none] [] mem Q := by
  refine zR_aload_n d_Mo_readCode_140 rfl rfl ?_
  refine zR_aload_n d_Mo_readCode_141 rfl rfl ?_
  refine zR_getI (j := 28) d_Mo_readCode_142 sh_68 cl_Mo rfl (by decide) g_279 ?_
  refine zR_if_ne (tgt := 158) d_Mo_readCode_145 (by decide) (fun h1 => ?_) (fun h1 => ?_)
  · replace h := h.1 h1
    refine zR_iconst (v := 1) d_Mo_readCode_158 (by decide) ?_
    refine zR_goto (tgt := 163) d_Mo_readCode_159 (by decide) ?_
    refine zR_put (j := 28) (ty := .boolean) d_Mo_readCode_163 sh_68 cl_Mo rfl (by decide) rfl (by decide +kernel) g_279 (zbool (Or.inr rfl)) ?_
    refine zR_drop 4 ?_
    exact h
  · replace h := h.2 h1
    refine zR_iload_n d_Mo_readCode_148 rfl rfl ?_
    refine zR_if_ne (tgt := 158) d_Mo_readCode_149 (by decide) (fun h1 => ?_) (fun h1 => ?_)
    · replace h := h.1 h1
      refine zR_iconst (v := 1) d_Mo_readCode_158 (by decide) ?_
      refine zR_goto (tgt := 163) d_Mo_readCode_159 (by decide) ?_
      refine zR_put (j := 28) (ty := .boolean) d_Mo_readCode_163 sh_68 cl_Mo rfl (by decide) rfl (by decide +kernel) g_279 (zbool (Or.inr rfl)) ?_
      refine zR_drop 4 ?_
      exact h
    · replace h := h.2 h1
      refine zR_iload d_Mo_readCode_152 rfl ?_
      refine zR_iload_n d_Mo_readCode_154 rfl rfl ?_
      refine zR_icmp_le (tgt := 162) d_Mo_readCode_155 (by decide) (fun h1 => ?_) (fun h1 => ?_)
      · replace h := h.1 h1
        refine zR_iconst (v := 0) d_Mo_readCode_162 (by decide) ?_
        refine zR_put (j := 28) (ty := .boolean) d_Mo_readCode_163 sh_68 cl_Mo rfl (by decide) rfl (by decide +kernel) g_279 (zbool (Or.inl rfl)) ?_
        refine zR_drop 4 ?_
        exact h
      · replace h := h.2 h1
        refine zR_iconst (v := 1) d_Mo_readCode_158 (by decide) ?_
        refine zR_goto (tgt := 163) d_Mo_readCode_159 (by decide) ?_
        refine zR_put (j := 28) (ty := .boolean) d_Mo_readCode_163 sh_68 cl_Mo rfl (by decide) rfl (by decide +kernel) g_279 (zbool (Or.inr rfl)) ?_
        refine zR_drop 4 ?_
        exact h
theorem w_Mo_readCode_166 {κ : zK} {d : Nat} {mem : zM} {Q : Option zV → zM → Prop} {x1 x2 x3 : Int32}
    (h : zR κ d Y_Mo_assign 0 [some (.inr 68), some (.inl x1), some (.inl x2), none, none, none, none, none] [] mem (fun r m1 => r = none ∧ Q none m1)) : zR κ (d + 1) Y_Mo_readCode 166 [some (.inr 68), some (.inl x1), some (.inl x2), some (.inl x3), none, none] [] mem Q := by
  refine zR_aload_n d_Mo_readCode_166 rfl rfl ?_
  refine zR_iload_n d_Mo_readCode_167 rfl rfl ?_
  refine zR_iload_n d_Mo_readCode_168 rfl rfl ?_
  refine zR_callV (Y' := Y_Mo_assign) (n := 2) (A := [.inl x1, .inl x2]) (b := 68) (S := []) v_Mo_assign g_261 sh_68 cl_Mo rfl d_Mo_readCode_169 rfl (Nat.le_of_ble_eq_true rfl) rfl (zR_cons ?_ h)
  rintro r_ m1 ⟨rfl, h⟩
  show zR κ (d + 1) Y_Mo_readCode 172 [some (.inr 68), some (.inl x1), some (.inl x2), some (.inl x3), none, none] [] m1 Q
  exact zR_return rfl d_Mo_readCode_172 h
theorem w_Mo_readSymbol_0 {κ : zK} {d : Nat} {mem : zM} {Q : Option zV → zM → Prop} {x1 : Int32}
    (h : zR κ d Y_Mo_symbolsOf 0 [some (.inl x1)] [] mem (fun r m1 => ∃ y2 : Int32, r = some (.inl y2) ∧ zR κ (d + 1) Y_Mo_readSymbol 10 [some (.inr 68), some (.inl x1), some (.inl y2), some (.inl 0), some (.inl 0), none] [] m1 Q)) : zR κ (d + 1) Y_Mo_readSymbol 0 [some (.inr 68), some (.inl x1), none, none, none, none] [] mem Q := by
  refine zR_iload_n d_Mo_readSymbol_0 rfl rfl ?_
  refine zR_callS (Y' := Y_Mo_symbolsOf) (n := 1) (A := [.inl x1]) (S := []) v_Mo_symbolsOf g_259 d_Mo_readSymbol_1 rfl (Nat.le_of_ble_eq_true rfl) rfl (zR_cons ?_ h)
  rintro r_ m1 ⟨y2, rfl, h⟩
  show zR κ (d + 1) Y_Mo_readSymbol 4 [some (.inr 68), some (.inl x1), none, none, none, none] [.inl y2] m1 Q
  refine zR_istore_n d_Mo_readSymbol_4 rfl (by decide) ?_
  refine zR_iconst (v := 0) d_Mo_readSymbol_5 (by decide) ?_
  refine zR_istore_n d_Mo_readSymbol_6 rfl (by decide) ?_
  refine zR_iconst (v := 0) d_Mo_readSymbol_7 (by decide) ?_
  refine zR_istore d_Mo_readSymbol_8 (by decide) ?_
  exact h
theorem w_Mo_readSymbol_10 {κ : zK} {d : Nat} {mem : zM} {Q : Option zV → zM → Prop} {x1 x2 x3 x4 : Int32}
    (h : ((6 < x4 → Q (some (.inl 0)) (zms mem 68 28 1)) ∧ (¬ 6 < x4 → ((¬ (mem 68 28) = 0 → Q (some (.inl 0)) (zms mem 68 28 1)) ∧ ((mem 68 28) = 0 → ((¬ x4 = 0 → zR κ d Y_Mo_take 0 [some (.inr 68), some (.inl 1), none, none] [] mem (fun r m1 => ∃ y2 : Int32, r = some (.inl y2) ∧ zR κ (d + 1) Y_Mo_readSymbol 46 [some (.inr 68), some (.inl x1), some (.inl x2), some (.inl ((2 * x3) + y2)), some (.inl x4), some (.inl 0)] [] m1 Q)) ∧ (x4 = 0 → zR κ (d + 1) Y_Mo_readSymbol 46 [some (.inr 68), some (.inl x1), some (.inl x2), some (.inl 0), some (.inl x4), some (.inl 0)] [] mem Q))))))) : zR κ (d + 1) Y_Mo_readSymbol 10 [some (.inr 68), some (.inl x1), some (.inl x2), some (.inl x3), some (.inl x4), none] [] mem Q := by
  refine zR_iload d_Mo_readSymbol_10 rfl ?_
  refine zR_bipush (v := 6) d_Mo_readSymbol_12 (by decide) ?_
  refine zR_icmp_gt (tgt := 104) d_Mo_readSymbol_14 (by decide) (fun h1 => ?_) (fun h1 => ?_)
  · replace h := h.1 h1
    refine zR_aload_n d_Mo_readSymbol_104 rfl rfl ?_
    refine zR_iconst (v := 1) d_Mo_readSymbol_105 (by decide) ?_
    refine zR_put (j := 28) (ty := .boolean) d_Mo_readSymbol_106 sh_68 cl_Mo rfl (by decide) rfl (by decide +kernel) g_279 (zbool (Or.inr rfl)) ?_
    refine zR_iconst (v := 0) d_Mo_readSymbol_109 (by decide) ?_
    exact zR_ireturn rfl d_Mo_readSymbol_110 h
  · replace h := h.2 h1
    refine zR_aload_n d_Mo_readSymbol_17 rfl rfl ?_
    refine zR_getI (j := 28) d_Mo_readSymbol_18 sh_68 cl_Mo rfl (by decide) g_279 ?_
    refine zR_if_ne (tgt := 104) d_Mo_readSymbol_21 (by decide) (fun h1 => ?_) (fun h1 => ?_)
    · replace h := h.1 h1
      refine zR_aload_n d_Mo_readSymbol_104 rfl rfl ?_
      refine zR_iconst (v := 1) d_Mo_readSymbol_105 (by decide) ?_
      refine zR_put (j := 28) (ty := .boolean) d_Mo_readSymbol_106 sh_68 cl_Mo rfl (by decide) rfl (by decide +kernel) g_279 (zbool (Or.inr rfl)) ?_
      refine zR_iconst (v := 0) d_Mo_readSymbol_109 (by decide) ?_
      exact zR_ireturn rfl d_Mo_readSymbol_110 h
    · replace h := h.2 h1
      refine zR_iload d_Mo_readSymbol_24 rfl ?_
      refine zR_if_ne (tgt := 33) d_Mo_readSymbol_26 (by decide) (fun h1 => ?_) (fun h1 => ?_)
      · replace h := h.1 h1
        refine zR_iconst (v := 2) d_Mo_readSymbol_33 (by decide) ?_
        refine zR_iload_n d_Mo_readSymbol_34 rfl rfl ?_
        refine zR_imul d_Mo_readSymbol_35 ?_
        refine zR_aload_n d_Mo_readSymbol_36 rfl rfl ?_
        refine zR_iconst (v := 1) d_Mo_readSymbol_37 (by decide) ?_
        refine zR_callV (Y' := Y_Mo_take) (n := 1) (A := [.inl 1]) (b := 68) (S := [.inl (2 * x3)]) v_Mo_take g_280 sh_68 cl_Mo rfl d_Mo_readSymbol_38 rfl (Nat.le_of_ble_eq_true rfl) rfl (zR_cons ?_ h)
        rintro r_ m1 ⟨y2, rfl, h⟩
        show zR κ (d + 1) Y_Mo_readSymbol 41 [some (.inr 68), some (.inl x1), some (.inl x2), some (.inl x3), some (.inl x4), none] [.inl y2, .inl (2 * x3)] m1 Q
        refine zR_iadd d_Mo_readSymbol_41 ?_
        refine zR_istore_n d_Mo_readSymbol_42 rfl (by decide) ?_
        refine zR_iconst (v := 0) d_Mo_readSymbol_43 (by decide) ?_
        refine zR_istore d_Mo_readSymbol_44 (by decide) ?_
        exact h
      · replace h := h.2 h1
        refine zR_iconst (v := 0) d_Mo_readSymbol_29 (by decide) ?_
        refine zR_goto (tgt := 42) d_Mo_readSymbol_30 (by decide) ?_
        refine zR_istore_n d_Mo_readSymbol_42 rfl (by decide) ?_
        refine zR_iconst (v := 0) d_Mo_readSymbol_43 (by decide) ?_
        refine zR_istore d_Mo_readSymbol_44 (by decide) ?_
        exact h
theorem w_Mo_readSymbol_46 {κ : zK} {d : Nat} {mem : zM} {Q : Option zV → zM → Prop} {x1 x2 x3 x4 x5 : Int32}
    (h : ((x2 ≤ x5 → zR κ (d + 1) Y_Mo_readSymbol 10 [some (.inr 68), some (.inl x1), some (.inl x2), some (.inl x3), some (.inl (x4 + 1)), none] [] mem Q) ∧ (¬ x2 ≤ x5 → vp_in (x1 + x5) 1024 ∧ ((¬ (mem 73 (x1 + x5).toNatClampNeg) = x4 → zR κ (d + 1) Y_Mo_readSymbol 46 [some (.inr 68), some (.inl x1), some (.inl x2), some (.inl x3), some (.inl x4), some (.inl (x5 + 1))] [] mem Q) ∧ ((mem 73 (x1 + x5).toNatClampNeg) = x4 → vp_in (x1 + x5) 1024 ∧ ((¬ (mem 74 (x1 + x5).toNatClampNeg) = x3 → zR κ (d + 1) Y_Mo_readSymbol 46 [some (.inr 68), some (.inl x1), some (.inl x2), some (.inl x3), some (.inl x4), some (.inl (x5 + 1))] [] mem Q) ∧ ((mem 74 (x1 + x5).toNatClampNeg) = x3 → Q (some (.inl x5)) (zms mem 68 7 ((mem 68 7) + 1))))))))) : zR κ (d + 1) Y_Mo_readSymbol 46 [some (.inr 68), some (.inl x1), some (.inl x2), some (.inl x3), some (.inl x4), some (.inl x5)] [] mem Q := by
  refine zR_iload d_Mo_readSymbol_46 rfl ?_
  refine zR_iload_n d_Mo_readSymbol_48 rfl rfl ?_
  refine zR_icmp_ge (tgt := 98) d_Mo_readSymbol_49 (by decide) (fun h1 => ?_) (fun h1 => ?_)
  · replace h := h.1 h1
    refine zR_iinc (v := 1) d_Mo_readSymbol_98 rfl (by decide) (by decide) ?_
    refine zR_goto (tgt := 10) d_Mo_readSymbol_101 (by decide) ?_
    refine zR_drop 5 ?_
    exact h
  · replace h := h.2 h1
    refine zR_aload_n d_Mo_readSymbol_52 rfl rfl ?_
    refine zR_getR (j := 11) d_Mo_readSymbol_53 sh_68 cl_Mo rfl (by decide) g_254 ?_
    refine zR_iload_n d_Mo_readSymbol_56 rfl rfl ?_
    refine zR_iload d_Mo_readSymbol_57 rfl ?_
    refine zR_iadd d_Mo_readSymbol_59 ?_
    refine zR_iaload d_Mo_readSymbol_60 sh_73 h.1 rfl ?_
    replace h := h.2
    refine zR_iload d_Mo_readSymbol_61 rfl ?_
    refine zR_icmp_ne (tgt := 92) d_Mo_readSymbol_63 (by decide) (fun h1 => ?_) (fun h1 => ?_)
    · replace h := h.1 h1
      refine zR_iinc (v := 1) d_Mo_readSymbol_92 rfl (by decide) (by decide) ?_
      refine zR_goto (tgt := 46) d_Mo_readSymbol_95 (by decide) ?_
      exact h
    · replace h := h.2 h1
      refine zR_aload_n d_Mo_readSymbol_66 rfl rfl ?_
      refine zR_getR (j := 12) d_Mo_readSymbol_67 sh_68 cl_Mo rfl (by decide) g_256 ?_
      refine zR_iload_n d_Mo_readSymbol_70 rfl rfl ?_
      refine zR_iload d_Mo_readSymbol_71 rfl ?_
      refine zR_iadd d_Mo_readSymbol_73 ?_
      refine zR_iaload d_Mo_readSymbol_74 sh_74 h.1 rfl ?_
      replace h := h.2
      refine zR_iload_n d_Mo_readSymbol_75 rfl rfl ?_
      refine zR_icmp_ne (tgt := 92) d_Mo_readSymbol_76 (by decide) (fun h1 => ?_) (fun h1 => ?_)
      · replace h := h.1 h1
        refine zR_iinc (v := 1) d_Mo_readSymbol_92 rfl (by decide) (by decide) ?_
        refine zR_goto (tgt := 46) d_Mo_readSymbol_95 (by decide) ?_
        exact h
      · replace h := h.2 h1
        refine zR_aload_n d_Mo_readSymbol_79 rfl rfl ?_
        refine zR_dup d_Mo_readSymbol_80 ?_
        refine zR_getI (j := 7) d_Mo_readSymbol_81 sh_68 cl_Mo rfl (by decide) g_228 ?_
        refine zR_iconst (v := 1) d_Mo_readSymbol_84 (by decide) ?_
        refine zR_iadd d_Mo_readSymbol_85 ?_
        refine zR_put (j := 7) (ty := .int) d_Mo_readSymbol_86 sh_68 cl_Mo rfl (by decide) rfl (by decide +kernel) g_228 (zint _) ?_
        refine zR_iload d_Mo_readSymbol_89 rfl ?_
        exact zR_ireturn rfl d_Mo_readSymbol_91 h
theorem w_Mo_make_0 {κ : zK} {d : Nat} {mem : zM} {Q : Option zV → zM → Prop} {x1 x2 : Int32}
    (h : ((96 ≤ (mem 68 29) → Q none (zms mem 68 28 1)) ∧ (¬ 96 ≤ (mem 68 29) → (((mem 68 29) < x2 → vp_in (mem 68 29) 96 ∧ Q none (zms (zms mem 84 (mem 68 29).toNatClampNeg x1) 68 29 ((mem 68 29) + 1))) ∧ (¬ (mem 68 29) < x2 → Q none (zms mem 68 28 1)))))) : zR κ d Y_Mo_make 0 [some (.inr 68), some (.inl x1), some (.inl x2)] [] mem Q := by
  refine zR_aload_n d_Mo_make_0 rfl rfl ?_
  refine zR_getI (j := 29) d_Mo_make_1 sh_68 cl_Mo rfl (by decide) g_282 ?_
  refine zR_bipush (v := 96) d_Mo_make_4 (by decide) ?_
  refine zR_icmp_ge (tgt := 17) d_Mo_make_6 (by decide) (fun h1 => ?_) (fun h1 => ?_)
  · replace h := h.1 h1
    refine zR_aload_n d_Mo_make_17 rfl rfl ?_
    refine zR_iconst (v := 1) d_Mo_make_18 (by decide) ?_
    refine zR_put (j := 28) (ty := .boolean) d_Mo_make_19 sh_68 cl_Mo rfl (by decide) rfl (by decide +kernel) g_279 (zbool (Or.inr rfl)) ?_
    exact zR_return rfl d_Mo_make_22 h
  · replace h := h.2 h1
    refine zR_aload_n d_Mo_make_9 rfl rfl ?_
    refine zR_getI (j := 29) d_Mo_make_10 sh_68 cl_Mo rfl (by decide) g_282 ?_
    refine zR_iload_n d_Mo_make_13 rfl rfl ?_
    refine zR_icmp_lt (tgt := 23) d_Mo_make_14 (by decide) (fun h1 => ?_) (fun h1 => ?_)
    · replace h := h.1 h1
      refine zR_aload_n d_Mo_make_23 rfl rfl ?_
      refine zR_getR (j := 30) d_Mo_make_24 sh_68 cl_Mo rfl (by decide) g_283 ?_
      refine zR_aload_n d_Mo_make_27 rfl rfl ?_
      refine zR_getI (j := 29) d_Mo_make_28 sh_68 cl_Mo rfl (by decide) g_282 ?_
      refine zR_iload_n d_Mo_make_31 rfl rfl ?_
      refine zR_iastore d_Mo_make_32 sh_84 h.1 rfl ?_
      replace h := h.2
      refine zR_aload_n d_Mo_make_33 rfl rfl ?_
      refine zR_dup d_Mo_make_34 ?_
      refine zR_getI (j := 29) d_Mo_make_35 sh_68 cl_Mo rfl (by decide) g_282 ?_
      refine zR_iconst (v := 1) d_Mo_make_38 (by decide) ?_
      refine zR_iadd d_Mo_make_39 ?_
      refine zR_put (j := 29) (ty := .int) d_Mo_make_40 sh_68 cl_Mo rfl (by decide) rfl (by decide +kernel) g_282 (zint _) ?_
      exact zR_return rfl d_Mo_make_43 h
    · replace h := h.2 h1
      refine zR_aload_n d_Mo_make_17 rfl rfl ?_
      refine zR_iconst (v := 1) d_Mo_make_18 (by decide) ?_
      refine zR_put (j := 28) (ty := .boolean) d_Mo_make_19 sh_68 cl_Mo rfl (by decide) rfl (by decide +kernel) g_279 (zbool (Or.inr rfl)) ?_
      exact zR_return rfl d_Mo_make_22 h
theorem w_Mo_readDistance_0 {κ : zK} {d : Nat} {mem : zM} {Q : Option zV → zM → Prop} {x1 : Int32}
    (h : ((4 ≤ x1 → ((¬ x1 = 4 → ((¬ x1 = 5 → zR κ d Y_Mo_lowest 0 [some (.inl x1)] [] mem (fun r m1 => ∃ y2 : Int32, r = some (.inl y2) ∧ zR κ d Y_Mo_extra 0 [some (.inl x1)] [] m1 (fun r m3 => ∃ y4 : Int32, r = some (.inl y4) ∧ zR κ d Y_Mo_take 0 [some (.inr 68), some (.inl y4), none, none] [] m3 (fun r m5 => ∃ y6 : Int32, r = some (.inl y6) ∧ Q (some (.inl (y2 + y6))) m5)))) ∧ (x1 = 5 → Q (some (.inl ((mem 75 0) + 1))) mem))) ∧ (x1 = 4 → Q (some (.inl ((mem 75 0) - 1))) mem))) ∧ (¬ 4 ≤ x1 → vp_in x1 4 ∧ Q (some (.inl (mem 75 x1.toNatClampNeg))) mem))) : zR κ (d + 1) Y_Mo_readDistance 0 [some (.inr 68), some (.inl x1)] [] mem Q := by
  refine zR_iload_n d_Mo_readDistance_0 rfl rfl ?_
  refine zR_iconst (v := 4) d_Mo_readDistance_1 (by decide) ?_
  refine zR_icmp_ge (tgt := 12) d_Mo_readDistance_2 (by decide) (fun h1 => ?_) (fun h1 => ?_)
  · replace h := h.1 h1
    refine zR_iload_n d_Mo_readDistance_12 rfl rfl ?_
    refine zR_iconst (v := 4) d_Mo_readDistance_13 (by decide) ?_
    refine zR_icmp_ne (tgt := 28) d_Mo_readDistance_14 (by decide) (fun h1 => ?_) (fun h1 => ?_)
    · replace h := h.1 h1
      refine zR_iload_n d_Mo_readDistance_28 rfl rfl ?_
      refine zR_iconst (v := 5) d_Mo_readDistance_29 (by decide) ?_
      refine zR_icmp_ne (tgt := 44) d_Mo_readDistance_30 (by decide) (fun h1 => ?_) (fun h1 => ?_)
      · replace h := h.1 h1
        refine zR_iload_n d_Mo_readDistance_44 rfl rfl ?_
        refine zR_callS (Y' := Y_Mo_lowest) (n := 1) (A := [.inl x1]) (S := []) v_Mo_lowest g_242 d_Mo_readDistance_45 rfl (Nat.le_of_ble_eq_true rfl) rfl (zR_cons ?_ h)
        rintro r_ m1 ⟨y2, rfl, h⟩
        show zR κ (d + 1) Y_Mo_readDistance 48 [some (.inr 68), some (.inl x1)] [.inl y2] m1 Q
        refine zR_aload_n d_Mo_readDistance_48 rfl rfl ?_
        refine zR_iload_n d_Mo_readDistance_49 rfl rfl ?_
        refine zR_callS (Y' := Y_Mo_extra) (n := 1) (A := [.inl x1]) (S := [.inr 68, .inl y2]) v_Mo_extra g_269 d_Mo_readDistance_50 rfl (Nat.le_of_ble_eq_true rfl) rfl (zR_cons ?_ h)
        rintro r_ m3 ⟨y4, rfl, h⟩
        show zR κ (d + 1) Y_Mo_readDistance 53 [some (.inr 68), some (.inl x1)] [.inl y4, .inr 68, .inl y2] m3 Q
        refine zR_callV (Y' := Y_Mo_take) (n := 1) (A := [.inl y4]) (b := 68) (S := [.inl y2]) v_Mo_take g_280 sh_68 cl_Mo rfl d_Mo_readDistance_53 rfl (Nat.le_of_ble_eq_true rfl) rfl (zR_cons ?_ h)
        rintro r_ m5 ⟨y6, rfl, h⟩
        show zR κ (d + 1) Y_Mo_readDistance 56 [some (.inr 68), some (.inl x1)] [.inl y6, .inl y2] m5 Q
        refine zR_iadd d_Mo_readDistance_56 ?_
        exact zR_ireturn rfl d_Mo_readDistance_57 h
      · replace h := h.2 h1
        refine zR_aload_n d_Mo_readDistance_33 rfl rfl ?_
        refine zR_getR (j := 13) d_Mo_readDistance_34 sh_68 cl_Mo rfl (by decide) g_238 ?_
        refine zR_iconst (v := 0) d_Mo_readDistance_37 (by decide) ?_
        refine zR_iaload (j := 0) d_Mo_readDistance_38 sh_75 (vp_in_nI (n := 0) (by decide) (by decide)) (by decide) ?_
        refine zR_iconst (v := 1) d_Mo_readDistance_39 (by decide) ?_
        refine zR_iadd d_Mo_readDistance_40 ?_
        refine zR_goto (tgt := 57) d_Mo_readDistance_41 (by decide) ?_
        exact zR_ireturn rfl d_Mo_readDistance_57 h
    · replace h := h.2 h1
      refine zR_aload_n d_Mo_readDistance_17 rfl rfl ?_
      refine zR_getR (j := 13) d_Mo_readDistance_18 sh_68 cl_Mo rfl (by decide) g_238 ?_
      refine zR_iconst (v := 0) d_Mo_readDistance_21 (by decide) ?_
      refine zR_iaload (j := 0) d_Mo_readDistance_22 sh_75 (vp_in_nI (n := 0) (by decide) (by decide)) (by decide) ?_
      refine zR_iconst (v := 1) d_Mo_readDistance_23 (by decide) ?_
      refine zR_isub d_Mo_readDistance_24 ?_
      refine zR_goto (tgt := 57) d_Mo_readDistance_25 (by decide) ?_
      exact zR_ireturn rfl d_Mo_readDistance_57 h
  · replace h := h.2 h1
    refine zR_aload_n d_Mo_readDistance_5 rfl rfl ?_
    refine zR_getR (j := 13) d_Mo_readDistance_6 sh_68 cl_Mo rfl (by decide) g_238 ?_
    refine zR_iload_n d_Mo_readDistance_9 rfl rfl ?_
    refine zR_iaload d_Mo_readDistance_10 sh_75 h.1 rfl ?_
    replace h := h.2
    exact zR_ireturn rfl d_Mo_readDistance_11 h
theorem w_Mo_copy_0 {κ : zK} {d : Nat} {mem : zM} {Q : Option zV → zM → Prop} {x1 x2 x3 : Int32}
    (h : ((¬ x1 = 7 → zR κ d Y_Mo_readSymbol 0 [some (.inr 68), some (.inl 768), none, none, none, none] [] mem (fun r m1 => ∃ y2 : Int32, r = some (.inl y2) ∧ zR κ (d + 1) Y_Mo_copy 17 [some (.inr 68), some (.inl x1), some (.inl x2), some (.inl x3), none, none, none, none, none] [.inl y2] m1 Q)) ∧ (x1 = 7 → zR κ (d + 1) Y_Mo_copy 17 [some (.inr 68), some (.inl x1), some (.inl x2), some (.inl x3), none, none, none, none, none] [.inl 0] mem Q))) : zR κ (d + 1) Y_Mo_copy 0 [some (.inr 68), some (.inl x1), some (.inl x2), some (.inl x3), none, none, none, none, none] [] mem Q := by
  refine zR_iload_n d_Mo_copy_0 rfl rfl ?_
  refine zR_bipush (v := 7) d_Mo_copy_1 (by decide) ?_
  refine zR_icmp_ne (tgt := 10) d_Mo_copy_3 (by decide) (fun h1 => ?_) (fun h1 => ?_)
  · replace h := h.1 h1
    refine zR_aload_n d_Mo_copy_10 rfl rfl ?_
    refine zR_sipush (v := 768) d_Mo_copy_11 (by decide) ?_
    refine zR_callV (Y' := Y_Mo_readSymbol) (n := 1) (A := [.inl 768]) (b := 68) (S := []) v_Mo_readSymbol g_284 sh_68 cl_Mo rfl d_Mo_copy_14 rfl (Nat.le_of_ble_eq_true rfl) rfl (zR_cons ?_ h)
    rintro r_ m1 ⟨y2, rfl, h⟩
    show zR κ (d + 1) Y_Mo_copy 17 [some (.inr 68), some (.inl x1), some (.inl x2), some (.inl x3), none, none, none, none, none] [.inl y2] m1 Q
    exact h
  · replace h := h.2 h1
    refine zR_iconst (v := 0) d_Mo_copy_6 (by decide) ?_
    refine zR_goto (tgt := 17) d_Mo_copy_7 (by decide) ?_
    exact h
theorem w_Mo_copy_17 {κ : zK} {d : Nat} {mem : zM} {Q : Option zV → zM → Prop} {x1 x2 x3 s0 : Int32}
    (h : zR κ d Y_Mo_readDistance 0 [some (.inr 68), some (.inl s0)] [] mem (fun r m1 => ∃ y2 : Int32, r = some (.inl y2) ∧ ((¬ (m1 68 28) = 0 → Q none (zms m1 68 28 1)) ∧ ((m1 68 28) = 0 → ((1 ≤ y2 → (((m1 68 29) < y2 → ((x2 = 4 → ((((y2 - (m1 68 29)) - 1) ≤ 15 → zR κ (d + 1) Y_Mo_copy 153 [some (.inr 68), some (.inl x1), some (.inl x2), some (.inl x3), some (.inl s0), some (.inl y2), some (.inl ((y2 - (m1 68 29)) - 1)), some (.inl 0), none] [] m1 Q) ∧ (¬ ((y2 - (m1 68 29)) - 1) ≤ 15 → Q none (zms m1 68 28 1)))) ∧ (¬ x2 = 4 → ((¬ x2 = 5 → Q none (zms m1 68 28 1)) ∧ (x2 = 5 → ((((y2 - (m1 68 29)) - 1) ≤ 15 → zR κ (d + 1) Y_Mo_copy 153 [some (.inr 68), some (.inl x1), some (.inl x2), some (.inl x3), some (.inl s0), some (.inl y2), some (.inl ((y2 - (m1 68 29)) - 1)), some (.inl 0), none] [] m1 Q) ∧ (¬ ((y2 - (m1 68 29)) - 1) ≤ 15 → Q none (zms m1 68 28 1)))))))) ∧ (¬ (m1 68 29) < y2 → zR κ (d + 1) Y_Mo_copy 58 [some (.inr 68), some (.inl x1), some (.inl x2), some (.inl x3), some (.inl s0), some (.inl y2), some (.inl 0), none, none] [] m1 Q))) ∧ (¬ 1 ≤ y2 → Q none (zms m1 68 28 1))))))) : zR κ (d + 1) Y_Mo_copy 17 [some (.inr 68), some (.inl x1), some (.inl x2), some (.inl x3), none, none, none, none, none] [.inl s0] mem Q := by
  refine zR_istore d_Mo_copy_17 (by decide) ?_
  refine zR_aload_n d_Mo_copy_19 rfl rfl ?_
  refine zR_iload d_Mo_copy_20 rfl ?_
  refine zR_callV (Y' := Y_Mo_readDistance) (n := 1) (A := [.inl s0]) (b := 68) (S := []) v_Mo_readDistance g_285 sh_68 cl_Mo rfl d_Mo_copy_22 rfl (Nat.le_of_ble_eq_true rfl) rfl (zR_cons ?_ h)
  rintro r_ m1 ⟨y2, rfl, h⟩
  show zR κ (d + 1) Y_Mo_copy 25 [some (.inr 68), some (.inl x1), some (.inl x2), some (.inl x3), some (.inl s0), none, none, none, none] [.inl y2] m1 Q
  refine zR_istore d_Mo_copy_25 (by decide) ?_
  refine zR_aload_n d_Mo_copy_27 rfl rfl ?_
  refine zR_getI (j := 28) d_Mo_copy_28 sh_68 cl_Mo rfl (by decide) g_279 ?_
  refine zR_if_ne (tgt := 40) d_Mo_copy_31 (by decide) (fun h1 => ?_) (fun h1 => ?_)
  · replace h := h.1 h1
    refine zR_aload_n d_Mo_copy_40 rfl rfl ?_
    refine zR_iconst (v := 1) d_Mo_copy_41 (by decide) ?_
    refine zR_put (j := 28) (ty := .boolean) d_Mo_copy_42 sh_68 cl_Mo rfl (by decide) rfl (by decide +kernel) g_279 (zbool (Or.inr rfl)) ?_
    exact zR_return rfl d_Mo_copy_45 h
  · replace h := h.2 h1
    refine zR_iload d_Mo_copy_34 rfl ?_
    refine zR_iconst (v := 1) d_Mo_copy_36 (by decide) ?_
    refine zR_icmp_ge (tgt := 46) d_Mo_copy_37 (by decide) (fun h1 => ?_) (fun h1 => ?_)
    · replace h := h.1 h1
      refine zR_iload d_Mo_copy_46 rfl ?_
      refine zR_aload_n d_Mo_copy_48 rfl rfl ?_
      refine zR_getI (j := 29) d_Mo_copy_49 sh_68 cl_Mo rfl (by decide) g_282 ?_
      refine zR_icmp_gt (tgt := 116) d_Mo_copy_52 (by decide) (fun h1 => ?_) (fun h1 => ?_)
      · replace h := h.1 h1
        refine zR_iload d_Mo_copy_116 rfl ?_
        refine zR_aload_n d_Mo_copy_118 rfl rfl ?_
        refine zR_getI (j := 29) d_Mo_copy_119 sh_68 cl_Mo rfl (by decide) g_282 ?_
        refine zR_isub d_Mo_copy_122 ?_
        refine zR_iconst (v := 1) d_Mo_copy_123 (by decide) ?_
        refine zR_isub d_Mo_copy_124 ?_
        refine zR_istore d_Mo_copy_125 (by decide) ?_
        refine zR_iload_n d_Mo_copy_127 rfl rfl ?_
        refine zR_iconst (v := 4) d_Mo_copy_128 (by decide) ?_
        refine zR_icmp_eq (tgt := 137) d_Mo_copy_129 (by decide) (fun h1 => ?_) (fun h1 => ?_)
        · replace h := h.1 h1
          refine zR_iload d_Mo_copy_137 rfl ?_
          refine zR_bipush (v := 15) d_Mo_copy_139 (by decide) ?_
          refine zR_icmp_le (tgt := 150) d_Mo_copy_141 (by decide) (fun h1 => ?_) (fun h1 => ?_)
          · replace h := h.1 h1
            refine zR_iconst (v := 0) d_Mo_copy_150 (by decide) ?_
            refine zR_istore d_Mo_copy_151 (by decide) ?_
            exact h
          · replace h := h.2 h1
            refine zR_aload_n d_Mo_copy_144 rfl rfl ?_
            refine zR_iconst (v := 1) d_Mo_copy_145 (by decide) ?_
            refine zR_put (j := 28) (ty := .boolean) d_Mo_copy_146 sh_68 cl_Mo rfl (by decide) rfl (by decide +kernel) g_279 (zbool (Or.inr rfl)) ?_
            exact zR_return rfl d_Mo_copy_149 h
        · replace h := h.2 h1
          refine zR_iload_n d_Mo_copy_132 rfl rfl ?_
          refine zR_iconst (v := 5) d_Mo_copy_133 (by decide) ?_
          refine zR_icmp_ne (tgt := 144) d_Mo_copy_134 (by decide) (fun h1 => ?_) (fun h1 => ?_)
          · replace h := h.1 h1
            refine zR_aload_n d_Mo_copy_144 rfl rfl ?_
            refine zR_iconst (v := 1) d_Mo_copy_145 (by decide) ?_
            refine zR_put (j := 28) (ty := .boolean) d_Mo_copy_146 sh_68 cl_Mo rfl (by decide) rfl (by decide +kernel) g_279 (zbool (Or.inr rfl)) ?_
            exact zR_return rfl d_Mo_copy_149 h
          · replace h := h.2 h1
            refine zR_iload d_Mo_copy_137 rfl ?_
            refine zR_bipush (v := 15) d_Mo_copy_139 (by decide) ?_
            refine zR_icmp_le (tgt := 150) d_Mo_copy_141 (by decide) (fun h1 => ?_) (fun h1 => ?_)
            · replace h := h.1 h1
              refine zR_iconst (v := 0) d_Mo_copy_150 (by decide) ?_
              refine zR_istore d_Mo_copy_151 (by decide) ?_
              exact h
            · replace h := h.2 h1
              refine zR_aload_n d_Mo_copy_144 rfl rfl ?_
              refine zR_iconst (v := 1) d_Mo_copy_145 (by decide) ?_
              refine zR_put (j := 28) (ty := .boolean) d_Mo_copy_146 sh_68 cl_Mo rfl (by decide) rfl (by decide +kernel) g_279 (zbool (Or.inr rfl)) ?_
              exact zR_return rfl d_Mo_copy_149 h
      · replace h := h.2 h1
        refine zR_iconst (v := 0) d_Mo_copy_55 (by decide) ?_
        refine zR_istore d_Mo_copy_56 (by decide) ?_
        exact h
    · replace h := h.2 h1
      refine zR_aload_n d_Mo_copy_40 rfl rfl ?_
      refine zR_iconst (v := 1) d_Mo_copy_41 (by decide) ?_
      refine zR_put (j := 28) (ty := .boolean) d_Mo_copy_42 sh_68 cl_Mo rfl (by decide) rfl (by decide +kernel) g_279 (zbool (Or.inr rfl)) ?_
      exact zR_return rfl d_Mo_copy_45 h
theorem w_Mo_copy_58 {κ : zK} {d : Nat} {mem : zM} {Q : Option zV → zM → Prop} {x1 x2 x3 x4 x5 x6 : Int32}
    (h : ((x2 ≤ x6 → zR κ (d + 1) Y_Mo_copy 94 [some (.inr 68), some (.inl x1), some (.inl x2), some (.inl x3), some (.inl x4), some (.inl x5), some (.inl x6), none, none] [] mem Q) ∧ (¬ x2 ≤ x6 → ((¬ (mem 68 28) = 0 → zR κ (d + 1) Y_Mo_copy 94 [some (.inr 68), some (.inl x1), some (.inl x2), some (.inl x3), some (.inl x4), some (.inl x5), some (.inl x6), none, none] [] mem Q) ∧ ((mem 68 28) = 0 → vp_in ((mem 68 29) - x5) 96 ∧ zR κ d Y_Mo_make 0 [some (.inr 68), some (.inl (mem 84 ((mem 68 29) - x5).toNatClampNeg)), some (.inl x3)] [] mem (fun r m1 => r = none ∧ zR κ (d + 1) Y_Mo_copy 58 [some (.inr 68), some (.inl x1), some (.inl x2), some (.inl x3), some (.inl x4), some (.inl x5), some (.inl (x6 + 1)), none, none] [] m1 Q)))))) : zR κ (d + 1) Y_Mo_copy 58 [some (.inr 68), some (.inl x1), some (.inl x2), some (.inl x3), some (.inl x4), some (.inl x5), some (.inl x6), none, none] [] mem Q := by
  refine zR_iload d_Mo_copy_58 rfl ?_
  refine zR_iload_n d_Mo_copy_60 rfl rfl ?_
  refine zR_icmp_ge (tgt := 94) d_Mo_copy_61 (by decide) (fun h1 => ?_) (fun h1 => ?_)
  · replace h := h.1 h1
    exact h
  · replace h := h.2 h1
    refine zR_aload_n d_Mo_copy_64 rfl rfl ?_
    refine zR_getI (j := 28) d_Mo_copy_65 sh_68 cl_Mo rfl (by decide) g_279 ?_
    refine zR_if_ne (tgt := 94) d_Mo_copy_68 (by decide) (fun h1 => ?_) (fun h1 => ?_)
    · replace h := h.1 h1
      exact h
    · replace h := h.2 h1
      refine zR_aload_n d_Mo_copy_71 rfl rfl ?_
      refine zR_aload_n d_Mo_copy_72 rfl rfl ?_
      refine zR_getR (j := 30) d_Mo_copy_73 sh_68 cl_Mo rfl (by decide) g_283 ?_
      refine zR_aload_n d_Mo_copy_76 rfl rfl ?_
      refine zR_getI (j := 29) d_Mo_copy_77 sh_68 cl_Mo rfl (by decide) g_282 ?_
      refine zR_iload d_Mo_copy_80 rfl ?_
      refine zR_isub d_Mo_copy_82 ?_
      refine zR_iaload d_Mo_copy_83 sh_84 h.1 rfl ?_
      replace h := h.2
      refine zR_iload_n d_Mo_copy_84 rfl rfl ?_
      refine zR_callV (Y' := Y_Mo_make) (n := 2) (A := [.inl (mem 84 ((mem 68 29) - x5).toNatClampNeg), .inl x3]) (b := 68) (S := []) v_Mo_make g_286 sh_68 cl_Mo rfl d_Mo_copy_85 rfl (Nat.le_of_ble_eq_true rfl) rfl (zR_cons ?_ h)
      rintro r_ m1 ⟨rfl, h⟩
      show zR κ (d + 1) Y_Mo_copy 88 [some (.inr 68), some (.inl x1), some (.inl x2), some (.inl x3), some (.inl x4), some (.inl x5), some (.inl x6), none, none] [] m1 Q
      refine zR_iinc (v := 1) d_Mo_copy_88 rfl (by decide) (by decide) ?_
      refine zR_goto (tgt := 58) d_Mo_copy_91 (by decide) ?_
      exact h
theorem w_Mo_copy_94 {κ : zK} {d : Nat} {mem : zM} {Q : Option zV → zM → Prop} {x1 x2 x3 x4 x5 x6 : Int32}
    (h : ((x4 = 0 → Q none (zms mem 68 5 ((mem 68 5) + 1))) ∧ (¬ x4 = 0 → zR κ d Y_Mo_remember 0 [some (.inr 68), some (.inl x5)] [] (zms mem 68 5 ((mem 68 5) + 1)) (fun r m1 => r = none ∧ Q none m1)))) : zR κ (d + 1) Y_Mo_copy 94 [some (.inr 68), some (.inl x1), some (.inl x2), some (.inl x3), some (.inl x4), some (.inl x5), some (.inl x6), none, none] [] mem Q := by
  refine zR_aload_n d_Mo_copy_94 rfl rfl ?_
  refine zR_dup d_Mo_copy_95 ?_
  refine zR_getI (j := 5) d_Mo_copy_96 sh_68 cl_Mo rfl (by decide) g_226 ?_
  refine zR_iconst (v := 1) d_Mo_copy_99 (by decide) ?_
  refine zR_iadd d_Mo_copy_100 ?_
  refine zR_put (j := 5) (ty := .int) d_Mo_copy_101 sh_68 cl_Mo rfl (by decide) rfl (by decide +kernel) g_226 (zint _) ?_
  refine zR_iload d_Mo_copy_104 rfl ?_
  refine zR_if_eq (tgt := 115) d_Mo_copy_106 (by decide) (fun h1 => ?_) (fun h1 => ?_)
  · replace h := h.1 h1
    exact zR_return rfl d_Mo_copy_115 h
  · replace h := h.2 h1
    refine zR_aload_n d_Mo_copy_109 rfl rfl ?_
    refine zR_iload d_Mo_copy_110 rfl ?_
    refine zR_callV (Y' := Y_Mo_remember) (n := 1) (A := [.inl x5]) (b := 68) (S := []) v_Mo_remember g_249 sh_68 cl_Mo rfl d_Mo_copy_112 rfl (Nat.le_of_ble_eq_true rfl) rfl (zR_cons ?_ h)
    rintro r_ m1 ⟨rfl, h⟩
    show zR κ (d + 1) Y_Mo_copy 115 [some (.inr 68), some (.inl x1), some (.inl x2), some (.inl x3), some (.inl x4), some (.inl x5), some (.inl x6), none, none] [] m1 Q
    exact zR_return rfl d_Mo_copy_115 h
theorem w_Mo_copy_153 {κ : zK} {d : Nat} {mem : zM} {Q : Option zV → zM → Prop} {x1 x2 x3 x4 x5 x6 x7 : Int32}
    (h : zR κ d Y_Mo_bytesOf 0 [some (.inl x2), some (.inl x6)] [] mem (fun r m1 => ∃ y2 : Int32, r = some (.inl y2) ∧ ((y2 ≤ x7 → Q none (zms m1 68 6 ((m1 68 6) + 1))) ∧ (¬ y2 ≤ x7 → ((¬ (m1 68 28) = 0 → Q none (zms m1 68 6 ((m1 68 6) + 1))) ∧ ((m1 68 28) = 0 → zR κ d Y_Mo_byteOf 0 [some (.inl x2), some (.inl x6), some (.inl x7), none, none, none] [] m1 (fun r m3 => ∃ y4 : Int32, r = some (.inl y4) ∧ zR κ d Y_Mo_make 0 [some (.inr 68), some (.inl y4), some (.inl x3)] [] m3 (fun r m5 => r = none ∧ zR κ (d + 1) Y_Mo_copy 153 [some (.inr 68), some (.inl x1), some (.inl x2), some (.inl x3), some (.inl x4), some (.inl x5), some (.inl x6), some (.inl (x7 + 1)), none] [] m5 Q)))))))) : zR κ (d + 1) Y_Mo_copy 153 [some (.inr 68), some (.inl x1), some (.inl x2), some (.inl x3), some (.inl x4), some (.inl x5), some (.inl x6), some (.inl x7), none] [] mem Q := by
  refine zR_iload d_Mo_copy_153 rfl ?_
  refine zR_iload_n d_Mo_copy_155 rfl rfl ?_
  refine zR_iload d_Mo_copy_156 rfl ?_
  refine zR_callS (Y' := Y_Mo_bytesOf) (n := 2) (A := [.inl x2, .inl x6]) (S := [.inl x7]) v_Mo_bytesOf g_232 d_Mo_copy_158 rfl (Nat.le_of_ble_eq_true rfl) rfl (zR_cons ?_ h)
  rintro r_ m1 ⟨y2, rfl, h⟩
  show zR κ (d + 1) Y_Mo_copy 161 [some (.inr 68), some (.inl x1), some (.inl x2), some (.inl x3), some (.inl x4), some (.inl x5), some (.inl x6), some (.inl x7), none] [.inl y2, .inl x7] m1 Q
  refine zR_icmp_ge (tgt := 194) d_Mo_copy_161 (by decide) (fun h1 => ?_) (fun h1 => ?_)
  · replace h := h.1 h1
    refine zR_aload_n d_Mo_copy_194 rfl rfl ?_
    refine zR_dup d_Mo_copy_195 ?_
    refine zR_getI (j := 6) d_Mo_copy_196 sh_68 cl_Mo rfl (by decide) g_227 ?_
    refine zR_iconst (v := 1) d_Mo_copy_199 (by decide) ?_
    refine zR_iadd d_Mo_copy_200 ?_
    refine zR_put (j := 6) (ty := .int) d_Mo_copy_201 sh_68 cl_Mo rfl (by decide) rfl (by decide +kernel) g_227 (zint _) ?_
    exact zR_return rfl d_Mo_copy_204 h
  · replace h := h.2 h1
    refine zR_aload_n d_Mo_copy_164 rfl rfl ?_
    refine zR_getI (j := 28) d_Mo_copy_165 sh_68 cl_Mo rfl (by decide) g_279 ?_
    refine zR_if_ne (tgt := 194) d_Mo_copy_168 (by decide) (fun h1 => ?_) (fun h1 => ?_)
    · replace h := h.1 h1
      refine zR_aload_n d_Mo_copy_194 rfl rfl ?_
      refine zR_dup d_Mo_copy_195 ?_
      refine zR_getI (j := 6) d_Mo_copy_196 sh_68 cl_Mo rfl (by decide) g_227 ?_
      refine zR_iconst (v := 1) d_Mo_copy_199 (by decide) ?_
      refine zR_iadd d_Mo_copy_200 ?_
      refine zR_put (j := 6) (ty := .int) d_Mo_copy_201 sh_68 cl_Mo rfl (by decide) rfl (by decide +kernel) g_227 (zint _) ?_
      exact zR_return rfl d_Mo_copy_204 h
    · replace h := h.2 h1
      refine zR_iload_n d_Mo_copy_171 rfl rfl ?_
      refine zR_iload d_Mo_copy_172 rfl ?_
      refine zR_iload d_Mo_copy_174 rfl ?_
      refine zR_callS (Y' := Y_Mo_byteOf) (n := 3) (A := [.inl x2, .inl x6, .inl x7]) (S := []) v_Mo_byteOf g_233 d_Mo_copy_176 rfl (Nat.le_of_ble_eq_true rfl) rfl (zR_cons ?_ h)
      rintro r_ m3 ⟨y4, rfl, h⟩
      show zR κ (d + 1) Y_Mo_copy 179 [some (.inr 68), some (.inl x1), some (.inl x2), some (.inl x3), some (.inl x4), some (.inl x5), some (.inl x6), some (.inl x7), none] [.inl y4] m3 Q
      refine zR_istore d_Mo_copy_179 (by decide) ?_
      refine zR_aload_n d_Mo_copy_181 rfl rfl ?_
      refine zR_iload d_Mo_copy_182 rfl ?_
      refine zR_iload_n d_Mo_copy_184 rfl rfl ?_
      refine zR_callV (Y' := Y_Mo_make) (n := 2) (A := [.inl y4, .inl x3]) (b := 68) (S := []) v_Mo_make g_286 sh_68 cl_Mo rfl d_Mo_copy_185 rfl (Nat.le_of_ble_eq_true rfl) rfl (zR_cons ?_ h)
      rintro r_ m5 ⟨rfl, h⟩
      show zR κ (d + 1) Y_Mo_copy 188 [some (.inr 68), some (.inl x1), some (.inl x2), some (.inl x3), some (.inl x4), some (.inl x5), some (.inl x6), some (.inl x7), some (.inl y4)] [] m5 Q
      refine zR_iinc (v := 1) d_Mo_copy_188 rfl (by decide) (by decide) ?_
      refine zR_goto (tgt := 153) d_Mo_copy_191 (by decide) ?_
      refine zR_drop 8 ?_
      exact h
theorem w_Mo_readCoded_0 {κ : zK} {d : Nat} {mem : zM} {Q : Option zV → zM → Prop} {x1 : Int32}
    (h : zR κ d Y_Mo_take 0 [some (.inr 68), some (.inl 1), none, none] [] mem (fun r m1 => ∃ y2 : Int32, r = some (.inl y2) ∧ ((¬ y2 = 1 → zR κ (d + 1) Y_Mo_readCoded 14 [some (.inr 68), some (.inl x1), none, none, none, none, none, none, none, none, none] [.inl 0] m1 Q) ∧ (y2 = 1 → zR κ (d + 1) Y_Mo_readCoded 14 [some (.inr 68), some (.inl x1), none, none, none, none, none, none, none, none, none] [.inl 1] m1 Q)))) : zR κ (d + 1) Y_Mo_readCoded 0 [some (.inr 68), some (.inl x1), none, none, none, none, none, none, none, none, none] [] mem Q := by
  refine zR_aload_n d_Mo_readCoded_0 rfl rfl ?_
  refine zR_iconst (v := 1) d_Mo_readCoded_1 (by decide) ?_
  refine zR_callV (Y' := Y_Mo_take) (n := 1) (A := [.inl 1]) (b := 68) (S := []) v_Mo_take g_280 sh_68 cl_Mo rfl d_Mo_readCoded_2 rfl (Nat.le_of_ble_eq_true rfl) rfl (zR_cons ?_ h)
  rintro r_ m1 ⟨y2, rfl, h⟩
  show zR κ (d + 1) Y_Mo_readCoded 5 [some (.inr 68), some (.inl x1), none, none, none, none, none, none, none, none, none] [.inl y2] m1 Q
  refine zR_iconst (v := 1) d_Mo_readCoded_5 (by decide) ?_
  refine zR_icmp_ne (tgt := 13) d_Mo_readCoded_6 (by decide) (fun h1 => ?_) (fun h1 => ?_)
  · replace h := h.1 h1
    refine zR_iconst (v := 0) d_Mo_readCoded_13 (by decide) ?_
    exact h
  · replace h := h.2 h1
    refine zR_iconst (v := 1) d_Mo_readCoded_9 (by decide) ?_
    refine zR_goto (tgt := 14) d_Mo_readCoded_10 (by decide) ?_
    exact h
theorem w_Mo_readCoded_14 {κ : zK} {d : Nat} {mem : zM} {Q : Option zV → zM → Prop} {x1 s0 : Int32}
    (h : zR κ d Y_Mo_readCode 0 [some (.inr 68), some (.inl 0), none, none, none, none] [] mem (fun r m1 => r = none ∧ ((s0 = 0 → zR κ (d + 1) Y_Mo_readCoded 31 [some (.inr 68), some (.inl x1), some (.inl s0), none, none, none, none, none, none, none, none] [] m1 Q) ∧ (¬ s0 = 0 → zR κ d Y_Mo_readCode 0 [some (.inr 68), some (.inl 256), none, none, none, none] [] m1 (fun r m2 => r = none ∧ zR κ (d + 1) Y_Mo_readCoded 31 [some (.inr 68), some (.inl x1), some (.inl s0), none, none, none, none, none, none, none, none] [] m2 Q))))) : zR κ (d + 1) Y_Mo_readCoded 14 [some (.inr 68), some (.inl x1), none, none, none, none, none, none, none, none, none] [.inl s0] mem Q := by
  refine zR_istore_n d_Mo_readCoded_14 rfl (by decide) ?_
  refine zR_aload_n d_Mo_readCoded_15 rfl rfl ?_
  refine zR_iconst (v := 0) d_Mo_readCoded_16 (by decide) ?_
  refine zR_callV (Y' := Y_Mo_readCode) (n := 1) (A := [.inl 0]) (b := 68) (S := []) v_Mo_readCode g_287 sh_68 cl_Mo rfl d_Mo_readCoded_17 rfl (Nat.le_of_ble_eq_true rfl) rfl (zR_cons ?_ h)
  rintro r_ m1 ⟨rfl, h⟩
  show zR κ (d + 1) Y_Mo_readCoded 20 [some (.inr 68), some (.inl x1), some (.inl s0), none, none, none, none, none, none, none, none] [] m1 Q
  refine zR_iload_n d_Mo_readCoded_20 rfl rfl ?_
  refine zR_if_eq (tgt := 31) d_Mo_readCoded_21 (by decide) (fun h1 => ?_) (fun h1 => ?_)
  · replace h := h.1 h1
    exact h
  · replace h := h.2 h1
    refine zR_aload_n d_Mo_readCoded_24 rfl rfl ?_
    refine zR_sipush (v := 256) d_Mo_readCoded_25 (by decide) ?_
    refine zR_callV (Y' := Y_Mo_readCode) (n := 1) (A := [.inl 256]) (b := 68) (S := []) v_Mo_readCode g_287 sh_68 cl_Mo rfl d_Mo_readCoded_28 rfl (Nat.le_of_ble_eq_true rfl) rfl (zR_cons ?_ h)
    rintro r_ m2 ⟨rfl, h⟩
    show zR κ (d + 1) Y_Mo_readCoded 31 [some (.inr 68), some (.inl x1), some (.inl s0), none, none, none, none, none, none, none, none] [] m2 Q
    exact h
theorem w_Mo_readCoded_31 {κ : zK} {d : Nat} {mem : zM} {Q : Option zV → zM → Prop} {x1 x2 : Int32}
    (h : zR κ d Y_Mo_readCode 0 [some (.inr 68), some (.inl 512), none, none, none, none] [] mem (fun r m1 => r = none ∧ zR κ d Y_Mo_readCode 0 [some (.inr 68), some (.inl 768), none, none, none, none] [] m1 (fun r m2 => r = none ∧ zR κ (d + 1) Y_Mo_readCoded 55 [some (.inr 68), some (.inl x1), some (.inl x2), none, none, none, none, none, none, none, none] [] (zms m2 68 4 ((m2 68 4) + 1)) Q))) : zR κ (d + 1) Y_Mo_readCoded 31 [some (.inr 68), some (.inl x1), some (.inl x2), none, none, none, none, none, none, none, none] [] mem Q := by
  refine zR_aload_n d_Mo_readCoded_31 rfl rfl ?_
  refine zR_sipush (v := 512) d_Mo_readCoded_32 (by decide) ?_
  refine zR_callV (Y' := Y_Mo_readCode) (n := 1) (A := [.inl 512]) (b := 68) (S := []) v_Mo_readCode g_287 sh_68 cl_Mo rfl d_Mo_readCoded_35 rfl (Nat.le_of_ble_eq_true rfl) rfl (zR_cons ?_ h)
  rintro r_ m1 ⟨rfl, h⟩
  show zR κ (d + 1) Y_Mo_readCoded 38 [some (.inr 68), some (.inl x1), some (.inl x2), none, none, none, none, none, none, none, none] [] m1 Q
  refine zR_aload_n d_Mo_readCoded_38 rfl rfl ?_
  refine zR_sipush (v := 768) d_Mo_readCoded_39 (by decide) ?_
  refine zR_callV (Y' := Y_Mo_readCode) (n := 1) (A := [.inl 768]) (b := 68) (S := []) v_Mo_readCode g_287 sh_68 cl_Mo rfl d_Mo_readCoded_42 rfl (Nat.le_of_ble_eq_true rfl) rfl (zR_cons ?_ h)
  rintro r_ m2 ⟨rfl, h⟩
  show zR κ (d + 1) Y_Mo_readCoded 45 [some (.inr 68), some (.inl x1), some (.inl x2), none, none, none, none, none, none, none, none] [] m2 Q
  refine zR_aload_n d_Mo_readCoded_45 rfl rfl ?_
  refine zR_dup d_Mo_readCoded_46 ?_
  refine zR_getI (j := 4) d_Mo_readCoded_47 sh_68 cl_Mo rfl (by decide) g_225 ?_
  refine zR_iconst (v := 1) d_Mo_readCoded_50 (by decide) ?_
  refine zR_iadd d_Mo_readCoded_51 ?_
  refine zR_put (j := 4) (ty := .int) d_Mo_readCoded_52 sh_68 cl_Mo rfl (by decide) rfl (by decide +kernel) g_225 (zint _) ?_
  exact h
theorem w_Mo_readCoded_55 {κ : zK} {d : Nat} {mem : zM} {Q : Option zV → zM → Prop} {x1 x2 : Int32}
    (h : ((¬ (mem 68 28) = 0 → Q none mem) ∧ ((mem 68 28) = 0 → ((x1 ≤ (mem 68 29) → Q none mem) ∧ (¬ x1 ≤ (mem 68 29) → zR κ d Y_Mo_readSymbol 0 [some (.inr 68), some (.inl 512), none, none, none, none] [] mem (fun r m1 => ∃ y2 : Int32, r = some (.inl y2) ∧ ((2 ≤ (y2 / 8) → ((¬ (y2 / 8) = 2 → zR κ d Y_Mo_take 0 [some (.inr 68), some (.inl 6), none, none] [] m1 (fun r m3 => ∃ y4 : Int32, r = some (.inl y4) ∧ zR κ (d + 1) Y_Mo_readCoded 126 [some (.inr 68), some (.inl x1), some (.inl x2), some (.inl y2), some (.inl (y2 / 8)), some (.inl (y2 - y2 / 8 * 8)), none, none, none, none, none] [.inl (6 + y4)] m3 Q)) ∧ ((y2 / 8) = 2 → zR κ d Y_Mo_take 0 [some (.inr 68), some (.inl 2), none, none] [] m1 (fun r m5 => ∃ y6 : Int32, r = some (.inl y6) ∧ zR κ (d + 1) Y_Mo_readCoded 126 [some (.inr 68), some (.inl x1), some (.inl x2), some (.inl y2), some (.inl (y2 / 8)), some (.inl (y2 - y2 / 8 * 8)), none, none, none, none, none] [.inl (2 + y6)] m5 Q)))) ∧ (¬ 2 ≤ (y2 / 8) → zR κ (d + 1) Y_Mo_readCoded 126 [some (.inr 68), some (.inl x1), some (.inl x2), some (.inl y2), some (.inl (y2 / 8)), some (.inl (y2 - y2 / 8 * 8)), none, none, none, none, none] [.inl (y2 / 8)] m1 Q)))))))) : zR κ (d + 1) Y_Mo_readCoded 55 [some (.inr 68), some (.inl x1), some (.inl x2), none, none, none, none, none, none, none, none] [] mem Q := by
  refine zR_aload_n d_Mo_readCoded_55 rfl rfl ?_
  refine zR_getI (j := 28) d_Mo_readCoded_56 sh_68 cl_Mo rfl (by decide) g_279 ?_
  refine zR_if_ne (tgt := 270) d_Mo_readCoded_59 (by decide) (fun h1 => ?_) (fun h1 => ?_)
  · replace h := h.1 h1
    exact zR_return rfl d_Mo_readCoded_270 h
  · replace h := h.2 h1
    refine zR_aload_n d_Mo_readCoded_62 rfl rfl ?_
    refine zR_getI (j := 29) d_Mo_readCoded_63 sh_68 cl_Mo rfl (by decide) g_282 ?_
    refine zR_iload_n d_Mo_readCoded_66 rfl rfl ?_
    refine zR_icmp_ge (tgt := 270) d_Mo_readCoded_67 (by decide) (fun h1 => ?_) (fun h1 => ?_)
    · replace h := h.1 h1
      exact zR_return rfl d_Mo_readCoded_270 h
    · replace h := h.2 h1
      refine zR_aload_n d_Mo_readCoded_70 rfl rfl ?_
      refine zR_sipush (v := 512) d_Mo_readCoded_71 (by decide) ?_
      refine zR_callV (Y' := Y_Mo_readSymbol) (n := 1) (A := [.inl 512]) (b := 68) (S := []) v_Mo_readSymbol g_284 sh_68 cl_Mo rfl d_Mo_readCoded_74 rfl (Nat.le_of_ble_eq_true rfl) rfl (zR_cons ?_ h)
      rintro r_ m1 ⟨y2, rfl, h⟩
      show zR κ (d + 1) Y_Mo_readCoded 77 [some (.inr 68), some (.inl x1), some (.inl x2), none, none, none, none, none, none, none, none] [.inl y2] m1 Q
      refine zR_istore_n d_Mo_readCoded_77 rfl (by decide) ?_
      refine zR_iload_n d_Mo_readCoded_78 rfl rfl ?_
      refine zR_bipush (v := 8) d_Mo_readCoded_79 (by decide) ?_
      refine zR_idiv d_Mo_readCoded_81 (by decide) ?_
      refine zR_istore d_Mo_readCoded_82 (by decide) ?_
      refine zR_iload_n d_Mo_readCoded_84 rfl rfl ?_
      refine zR_bipush (v := 8) d_Mo_readCoded_85 (by decide) ?_
      refine zR_irem d_Mo_readCoded_87 (by decide) ?_
      refine zR_istore d_Mo_readCoded_88 (by decide) ?_
      refine zR_iload d_Mo_readCoded_90 rfl ?_
      refine zR_iconst (v := 2) d_Mo_readCoded_92 (by decide) ?_
      refine zR_icmp_ge (tgt := 101) d_Mo_readCoded_93 (by decide) (fun h1 => ?_) (fun h1 => ?_)
      · replace h := h.1 h1
        refine zR_iload d_Mo_readCoded_101 rfl ?_
        refine zR_iconst (v := 2) d_Mo_readCoded_103 (by decide) ?_
        refine zR_icmp_ne (tgt := 117) d_Mo_readCoded_104 (by decide) (fun h1 => ?_) (fun h1 => ?_)
        · replace h := h.1 h1
          refine zR_bipush (v := 6) d_Mo_readCoded_117 (by decide) ?_
          refine zR_aload_n d_Mo_readCoded_119 rfl rfl ?_
          refine zR_bipush (v := 6) d_Mo_readCoded_120 (by decide) ?_
          refine zR_callV (Y' := Y_Mo_take) (n := 1) (A := [.inl 6]) (b := 68) (S := [.inl 6]) v_Mo_take g_280 sh_68 cl_Mo rfl d_Mo_readCoded_122 rfl (Nat.le_of_ble_eq_true rfl) rfl (zR_cons ?_ h)
          rintro r_ m3 ⟨y4, rfl, h⟩
          show zR κ (d + 1) Y_Mo_readCoded 125 [some (.inr 68), some (.inl x1), some (.inl x2), some (.inl y2), some (.inl (y2 / 8)), some (.inl (y2 - y2 / 8 * 8)), none, none, none, none, none] [.inl y4, .inl 6] m3 Q
          refine zR_iadd d_Mo_readCoded_125 ?_
          exact h
        · replace h := h.2 h1
          refine zR_iconst (v := 2) d_Mo_readCoded_107 (by decide) ?_
          refine zR_aload_n d_Mo_readCoded_108 rfl rfl ?_
          refine zR_iconst (v := 2) d_Mo_readCoded_109 (by decide) ?_
          refine zR_callV (Y' := Y_Mo_take) (n := 1) (A := [.inl 2]) (b := 68) (S := [.inl 2]) v_Mo_take g_280 sh_68 cl_Mo rfl d_Mo_readCoded_110 rfl (Nat.le_of_ble_eq_true rfl) rfl (zR_cons ?_ h)
          rintro r_ m5 ⟨y6, rfl, h⟩
          show zR κ (d + 1) Y_Mo_readCoded 113 [some (.inr 68), some (.inl x1), some (.inl x2), some (.inl y2), some (.inl (y2 / 8)), some (.inl (y2 - y2 / 8 * 8)), none, none, none, none, none] [.inl y6, .inl 2] m5 Q
          refine zR_iadd d_Mo_readCoded_113 ?_
          refine zR_goto (tgt := 126) d_Mo_readCoded_114 (by decide) ?_
          exact h
      · replace h := h.2 h1
        refine zR_iload d_Mo_readCoded_96 rfl ?_
        refine zR_goto (tgt := 126) d_Mo_readCoded_98 (by decide) ?_
        exact h
theorem w_Mo_readCoded_126 {κ : zK} {d : Nat} {mem : zM} {Q : Option zV → zM → Prop} {x1 x2 x3 x4 x5 s0 : Int32}
    (h : zR κ d Y_Mo_copyFrom 0 [some (.inl x5)] [] mem (fun r m1 => ∃ y2 : Int32, r = some (.inl y2) ∧ zR κ d Y_Mo_copyBits 0 [some (.inl x5)] [] m1 (fun r m3 => ∃ y4 : Int32, r = some (.inl y4) ∧ zR κ d Y_Mo_take 0 [some (.inr 68), some (.inl y4), none, none] [] m3 (fun r m5 => ∃ y6 : Int32, r = some (.inl y6) ∧ zR κ (d + 1) Y_Mo_readCoded 148 [some (.inr 68), some (.inl x1), some (.inl x2), some (.inl x3), some (.inl x4), some (.inl x5), some (.inl s0), some (.inl (y2 + y6)), some (.inl 0), none, none] [] m5 Q)))) : zR κ (d + 1) Y_Mo_readCoded 126 [some (.inr 68), some (.inl x1), some (.inl x2), some (.inl x3), some (.inl x4), some (.inl x5), none, none, none, none, none] [.inl s0] mem Q := by
  refine zR_istore d_Mo_readCoded_126 (by decide) ?_
  refine zR_iload d_Mo_readCoded_128 rfl ?_
  refine zR_callS (Y' := Y_Mo_copyFrom) (n := 1) (A := [.inl x5]) (S := []) v_Mo_copyFrom g_267 d_Mo_readCoded_130 rfl (Nat.le_of_ble_eq_true rfl) rfl (zR_cons ?_ h)
  rintro r_ m1 ⟨y2, rfl, h⟩
  show zR κ (d + 1) Y_Mo_readCoded 133 [some (.inr 68), some (.inl x1), some (.inl x2), some (.inl x3), some (.inl x4), some (.inl x5), some (.inl s0), none, none, none, none] [.inl y2] m1 Q
  refine zR_aload_n d_Mo_readCoded_133 rfl rfl ?_
  refine zR_iload d_Mo_readCoded_134 rfl ?_
  refine zR_callS (Y' := Y_Mo_copyBits) (n := 1) (A := [.inl x5]) (S := [.inr 68, .inl y2]) v_Mo_copyBits g_268 d_Mo_readCoded_136 rfl (Nat.le_of_ble_eq_true rfl) rfl (zR_cons ?_ h)
  rintro r_ m3 ⟨y4, rfl, h⟩
  show zR κ (d + 1) Y_Mo_readCoded 139 [some (.inr 68), some (.inl x1), some (.inl x2), some (.inl x3), some (.inl x4), some (.inl x5), some (.inl s0), none, none, none, none] [.inl y4, .inr 68, .inl y2] m3 Q
  refine zR_callV (Y' := Y_Mo_take) (n := 1) (A := [.inl y4]) (b := 68) (S := [.inl y2]) v_Mo_take g_280 sh_68 cl_Mo rfl d_Mo_readCoded_139 rfl (Nat.le_of_ble_eq_true rfl) rfl (zR_cons ?_ h)
  rintro r_ m5 ⟨y6, rfl, h⟩
  show zR κ (d + 1) Y_Mo_readCoded 142 [some (.inr 68), some (.inl x1), some (.inl x2), some (.inl x3), some (.inl x4), some (.inl x5), some (.inl s0), none, none, none, none] [.inl y6, .inl y2] m5 Q
  refine zR_iadd d_Mo_readCoded_142 ?_
  refine zR_istore d_Mo_readCoded_143 (by decide) ?_
  refine zR_iconst (v := 0) d_Mo_readCoded_145 (by decide) ?_
  refine zR_istore d_Mo_readCoded_146 (by decide) ?_
  exact h
theorem w_Mo_readCoded_148 {κ : zK} {d : Nat} {mem : zM} {Q : Option zV → zM → Prop} {x1 x2 x3 x4 x5 x6 x7 x8 : Int32}
    (h : ((x6 ≤ x8 → zR κ (d + 1) Y_Mo_readCoded 243 [some (.inr 68), some (.inl x1), some (.inl x2), some (.inl x3), some (.inl x4), some (.inl x5), some (.inl x6), some (.inl x7), some (.inl x8), none, none] [] mem Q) ∧ (¬ x6 ≤ x8 → ((¬ (mem 68 28) = 0 → zR κ (d + 1) Y_Mo_readCoded 243 [some (.inr 68), some (.inl x1), some (.inl x2), some (.inl x3), some (.inl x4), some (.inl x5), some (.inl x6), some (.inl x7), some (.inl x8), none, none] [] mem Q) ∧ ((mem 68 28) = 0 → ((x2 = 0 → zR κ (d + 1) Y_Mo_readCoded 225 [some (.inr 68), some (.inl x1), some (.inl x2), some (.inl x3), some (.inl x4), some (.inl x5), some (.inl x6), some (.inl x7), some (.inl x8), some (.inl 0), none] [.inl 0, .inr 68] mem Q) ∧ (¬ x2 = 0 → (((mem 68 29) ≤ 0 → zR κ (d + 1) Y_Mo_readCoded 225 [some (.inr 68), some (.inl x1), some (.inl x2), some (.inl x3), some (.inl x4), some (.inl x5), some (.inl x6), some (.inl x7), some (.inl x8), some (.inl 0), none] [.inl 0, .inr 68] mem Q) ∧ (¬ (mem 68 29) ≤ 0 → vp_in ((mem 68 29) - 1) 96 ∧ (((mem 84 ((mem 68 29) - 1).toNatClampNeg) < 97 → zR κ (d + 1) Y_Mo_readCoded 225 [some (.inr 68), some (.inl x1), some (.inl x2), some (.inl x3), some (.inl x4), some (.inl x5), some (.inl x6), some (.inl x7), some (.inl x8), some (.inl 0), none] [.inl 0, .inr 68] mem Q) ∧ (¬ (mem 84 ((mem 68 29) - 1).toNatClampNeg) < 97 → vp_in ((mem 68 29) - 1) 96 ∧ ((122 < (mem 84 ((mem 68 29) - 1).toNatClampNeg) → zR κ (d + 1) Y_Mo_readCoded 225 [some (.inr 68), some (.inl x1), some (.inl x2), some (.inl x3), some (.inl x4), some (.inl x5), some (.inl x6), some (.inl x7), some (.inl x8), some (.inl 0), none] [.inl 0, .inr 68] mem Q) ∧ (¬ 122 < (mem 84 ((mem 68 29) - 1).toNatClampNeg) → zR κ (d + 1) Y_Mo_readCoded 225 [some (.inr 68), some (.inl x1), some (.inl x2), some (.inl x3), some (.inl x4), some (.inl x5), some (.inl x6), some (.inl x7), some (.inl x8), some (.inl 1), none] [.inl 256, .inr 68] mem Q))))))))))))) : zR κ (d + 1) Y_Mo_readCoded 148 [some (.inr 68), some (.inl x1), some (.inl x2), some (.inl x3), some (.inl x4), some (.inl x5), some (.inl x6), some (.inl x7), some (.inl x8), none, none] [] mem Q := by
  refine zR_iload d_Mo_readCoded_148 rfl ?_
  refine zR_iload d_Mo_readCoded_150 rfl ?_
  refine zR_icmp_ge (tgt := 243) d_Mo_readCoded_152 (by decide) (fun h1 => ?_) (fun h1 => ?_)
  · replace h := h.1 h1
    exact h
  · replace h := h.2 h1
    refine zR_aload_n d_Mo_readCoded_155 rfl rfl ?_
    refine zR_getI (j := 28) d_Mo_readCoded_156 sh_68 cl_Mo rfl (by decide) g_279 ?_
    refine zR_if_ne (tgt := 243) d_Mo_readCoded_159 (by decide) (fun h1 => ?_) (fun h1 => ?_)
    · replace h := h.1 h1
      exact h
    · replace h := h.2 h1
      refine zR_iload_n d_Mo_readCoded_162 rfl rfl ?_
      refine zR_if_eq (tgt := 209) d_Mo_readCoded_163 (by decide) (fun h1 => ?_) (fun h1 => ?_)
      · replace h := h.1 h1
        refine zR_iconst (v := 0) d_Mo_readCoded_209 (by decide) ?_
        refine zR_istore d_Mo_readCoded_210 (by decide) ?_
        refine zR_aload_n d_Mo_readCoded_212 rfl rfl ?_
        refine zR_iload d_Mo_readCoded_213 rfl ?_
        refine zR_if_eq (tgt := 224) d_Mo_readCoded_215 (by decide) (fun _ => ?_) (fun h1 => absurd h1 (by decide))
        refine zR_iconst (v := 0) d_Mo_readCoded_224 (by decide) ?_
        exact h
      · replace h := h.2 h1
        refine zR_aload_n d_Mo_readCoded_166 rfl rfl ?_
        refine zR_getI (j := 29) d_Mo_readCoded_167 sh_68 cl_Mo rfl (by decide) g_282 ?_
        refine zR_if_le (tgt := 209) d_Mo_readCoded_170 (by decide) (fun h1 => ?_) (fun h1 => ?_)
        · replace h := h.1 h1
          refine zR_iconst (v := 0) d_Mo_readCoded_209 (by decide) ?_
          refine zR_istore d_Mo_readCoded_210 (by decide) ?_
          refine zR_aload_n d_Mo_readCoded_212 rfl rfl ?_
          refine zR_iload d_Mo_readCoded_213 rfl ?_
          refine zR_if_eq (tgt := 224) d_Mo_readCoded_215 (by decide) (fun _ => ?_) (fun h1 => absurd h1 (by decide))
          refine zR_iconst (v := 0) d_Mo_readCoded_224 (by decide) ?_
          exact h
        · replace h := h.2 h1
          refine zR_aload_n d_Mo_readCoded_173 rfl rfl ?_
          refine zR_getR (j := 30) d_Mo_readCoded_174 sh_68 cl_Mo rfl (by decide) g_283 ?_
          refine zR_aload_n d_Mo_readCoded_177 rfl rfl ?_
          refine zR_getI (j := 29) d_Mo_readCoded_178 sh_68 cl_Mo rfl (by decide) g_282 ?_
          refine zR_iconst (v := 1) d_Mo_readCoded_181 (by decide) ?_
          refine zR_isub d_Mo_readCoded_182 ?_
          refine zR_iaload d_Mo_readCoded_183 sh_84 h.1 rfl ?_
          replace h := h.2
          refine zR_bipush (v := 97) d_Mo_readCoded_184 (by decide) ?_
          refine zR_icmp_lt (tgt := 209) d_Mo_readCoded_186 (by decide) (fun h1 => ?_) (fun h1 => ?_)
          · replace h := h.1 h1
            refine zR_iconst (v := 0) d_Mo_readCoded_209 (by decide) ?_
            refine zR_istore d_Mo_readCoded_210 (by decide) ?_
            refine zR_aload_n d_Mo_readCoded_212 rfl rfl ?_
            refine zR_iload d_Mo_readCoded_213 rfl ?_
            refine zR_if_eq (tgt := 224) d_Mo_readCoded_215 (by decide) (fun _ => ?_) (fun h1 => absurd h1 (by decide))
            refine zR_iconst (v := 0) d_Mo_readCoded_224 (by decide) ?_
            exact h
          · replace h := h.2 h1
            refine zR_aload_n d_Mo_readCoded_189 rfl rfl ?_
            refine zR_getR (j := 30) d_Mo_readCoded_190 sh_68 cl_Mo rfl (by decide) g_283 ?_
            refine zR_aload_n d_Mo_readCoded_193 rfl rfl ?_
            refine zR_getI (j := 29) d_Mo_readCoded_194 sh_68 cl_Mo rfl (by decide) g_282 ?_
            refine zR_iconst (v := 1) d_Mo_readCoded_197 (by decide) ?_
            refine zR_isub d_Mo_readCoded_198 ?_
            refine zR_iaload d_Mo_readCoded_199 sh_84 h.1 rfl ?_
            replace h := h.2
            refine zR_bipush (v := 122) d_Mo_readCoded_200 (by decide) ?_
            refine zR_icmp_gt (tgt := 209) d_Mo_readCoded_202 (by decide) (fun h1 => ?_) (fun h1 => ?_)
            · replace h := h.1 h1
              refine zR_iconst (v := 0) d_Mo_readCoded_209 (by decide) ?_
              refine zR_istore d_Mo_readCoded_210 (by decide) ?_
              refine zR_aload_n d_Mo_readCoded_212 rfl rfl ?_
              refine zR_iload d_Mo_readCoded_213 rfl ?_
              refine zR_if_eq (tgt := 224) d_Mo_readCoded_215 (by decide) (fun _ => ?_) (fun h1 => absurd h1 (by decide))
              refine zR_iconst (v := 0) d_Mo_readCoded_224 (by decide) ?_
              exact h
            · replace h := h.2 h1
              refine zR_iconst (v := 1) d_Mo_readCoded_205 (by decide) ?_
              refine zR_goto (tgt := 210) d_Mo_readCoded_206 (by decide) ?_
              refine zR_istore d_Mo_readCoded_210 (by decide) ?_
              refine zR_aload_n d_Mo_readCoded_212 rfl rfl ?_
              refine zR_iload d_Mo_readCoded_213 rfl ?_
              refine zR_if_eq (tgt := 224) d_Mo_readCoded_215 (by decide) (fun h1 => absurd h1 (by decide)) (fun _ => ?_)
              refine zR_sipush (v := 256) d_Mo_readCoded_218 (by decide) ?_
              refine zR_goto (tgt := 225) d_Mo_readCoded_221 (by decide) ?_
              exact h
theorem w_Mo_readCoded_225 {κ : zK} {d : Nat} {mem : zM} {Q : Option zV → zM → Prop} {x1 x2 x3 x4 x5 x6 x7 x8 x9 s1 : Int32}
    (h : zR κ d Y_Mo_readSymbol 0 [some (.inr 68), some (.inl s1), none, none, none, none] [] mem (fun r m1 => ∃ y2 : Int32, r = some (.inl y2) ∧ zR κ d Y_Mo_make 0 [some (.inr 68), some (.inl y2), some (.inl x1)] [] m1 (fun r m3 => r = none ∧ zR κ (d + 1) Y_Mo_readCoded 148 [some (.inr 68), some (.inl x1), some (.inl x2), some (.inl x3), some (.inl x4), some (.inl x5), some (.inl x6), some (.inl x7), some (.inl (x8 + 1)), none, none] [] m3 Q))) : zR κ (d + 1) Y_Mo_readCoded 225 [some (.inr 68), some (.inl x1), some (.inl x2), some (.inl x3), some (.inl x4), some (.inl x5), some (.inl x6), some (.inl x7), some (.inl x8), some (.inl x9), none] [.inl s1, .inr 68] mem Q := by
  refine zR_callV (Y' := Y_Mo_readSymbol) (n := 1) (A := [.inl s1]) (b := 68) (S := []) v_Mo_readSymbol g_284 sh_68 cl_Mo rfl d_Mo_readCoded_225 rfl (Nat.le_of_ble_eq_true rfl) rfl (zR_cons ?_ h)
  rintro r_ m1 ⟨y2, rfl, h⟩
  show zR κ (d + 1) Y_Mo_readCoded 228 [some (.inr 68), some (.inl x1), some (.inl x2), some (.inl x3), some (.inl x4), some (.inl x5), some (.inl x6), some (.inl x7), some (.inl x8), some (.inl x9), none] [.inl y2] m1 Q
  refine zR_istore d_Mo_readCoded_228 (by decide) ?_
  refine zR_aload_n d_Mo_readCoded_230 rfl rfl ?_
  refine zR_iload d_Mo_readCoded_231 rfl ?_
  refine zR_iload_n d_Mo_readCoded_233 rfl rfl ?_
  refine zR_callV (Y' := Y_Mo_make) (n := 2) (A := [.inl y2, .inl x1]) (b := 68) (S := []) v_Mo_make g_286 sh_68 cl_Mo rfl d_Mo_readCoded_234 rfl (Nat.le_of_ble_eq_true rfl) rfl (zR_cons ?_ h)
  rintro r_ m3 ⟨rfl, h⟩
  show zR κ (d + 1) Y_Mo_readCoded 237 [some (.inr 68), some (.inl x1), some (.inl x2), some (.inl x3), some (.inl x4), some (.inl x5), some (.inl x6), some (.inl x7), some (.inl x8), some (.inl x9), some (.inl y2)] [] m3 Q
  refine zR_iinc (v := 1) d_Mo_readCoded_237 rfl (by decide) (by decide) ?_
  refine zR_goto (tgt := 148) d_Mo_readCoded_240 (by decide) ?_
  refine zR_drop 9 ?_
  refine zR_drop 10 ?_
  exact h
theorem w_Mo_readCoded_243 {κ : zK} {d : Nat} {mem : zM} {Q : Option zV → zM → Prop} {x1 x2 x3 x4 x5 x6 x7 x8 : Int32}
    (h : ((¬ (mem 68 28) = 0 → zR κ (d + 1) Y_Mo_readCoded 55 [some (.inr 68), some (.inl x1), some (.inl x2), none, none, none, none, none, none, none, none] [] mem Q) ∧ ((mem 68 28) = 0 → ((x1 ≤ (mem 68 29) → zR κ (d + 1) Y_Mo_readCoded 55 [some (.inr 68), some (.inl x1), some (.inl x2), none, none, none, none, none, none, none, none] [] mem Q) ∧ (¬ x1 ≤ (mem 68 29) → zR κ d Y_Mo_copy 0 [some (.inr 68), some (.inl x5), some (.inl x7), some (.inl x1), none, none, none, none, none] [] mem (fun r m1 => r = none ∧ zR κ (d + 1) Y_Mo_readCoded 55 [some (.inr 68), some (.inl x1), some (.inl x2), none, none, none, none, none, none, none, none] [] m1 Q)))))) : zR κ (d + 1) Y_Mo_readCoded 243 [some (.inr 68), some (.inl x1), some (.inl x2), some (.inl x3), some (.inl x4), some (.inl x5), some (.inl x6), some (.inl x7), some (.inl x8), none, none] [] mem Q := by
  refine zR_aload_n d_Mo_readCoded_243 rfl rfl ?_
  refine zR_getI (j := 28) d_Mo_readCoded_244 sh_68 cl_Mo rfl (by decide) g_279 ?_
  refine zR_if_ne (tgt := 267) d_Mo_readCoded_247 (by decide) (fun h1 => ?_) (fun h1 => ?_)
  · replace h := h.1 h1
    refine zR_goto (tgt := 55) d_Mo_readCoded_267 (by decide) ?_
    refine zR_drop 3 ?_
    refine zR_drop 4 ?_
    refine zR_drop 5 ?_
    refine zR_drop 6 ?_
    refine zR_drop 7 ?_
    refine zR_drop 8 ?_
    exact h
  · replace h := h.2 h1
    refine zR_aload_n d_Mo_readCoded_250 rfl rfl ?_
    refine zR_getI (j := 29) d_Mo_readCoded_251 sh_68 cl_Mo rfl (by decide) g_282 ?_
    refine zR_iload_n d_Mo_readCoded_254 rfl rfl ?_
    refine zR_icmp_ge (tgt := 267) d_Mo_readCoded_255 (by decide) (fun h1 => ?_) (fun h1 => ?_)
    · replace h := h.1 h1
      refine zR_goto (tgt := 55) d_Mo_readCoded_267 (by decide) ?_
      refine zR_drop 3 ?_
      refine zR_drop 4 ?_
      refine zR_drop 5 ?_
      refine zR_drop 6 ?_
      refine zR_drop 7 ?_
      refine zR_drop 8 ?_
      exact h
    · replace h := h.2 h1
      refine zR_aload_n d_Mo_readCoded_258 rfl rfl ?_
      refine zR_iload d_Mo_readCoded_259 rfl ?_
      refine zR_iload d_Mo_readCoded_261 rfl ?_
      refine zR_iload_n d_Mo_readCoded_263 rfl rfl ?_
      refine zR_callV (Y' := Y_Mo_copy) (n := 3) (A := [.inl x5, .inl x7, .inl x1]) (b := 68) (S := []) v_Mo_copy g_288 sh_68 cl_Mo rfl d_Mo_readCoded_264 rfl (Nat.le_of_ble_eq_true rfl) rfl (zR_cons ?_ h)
      rintro r_ m1 ⟨rfl, h⟩
      show zR κ (d + 1) Y_Mo_readCoded 267 [some (.inr 68), some (.inl x1), some (.inl x2), some (.inl x3), some (.inl x4), some (.inl x5), some (.inl x6), some (.inl x7), some (.inl x8), none, none] [] m1 Q
      refine zR_goto (tgt := 55) d_Mo_readCoded_267 (by decide) ?_
      refine zR_drop 3 ?_
      refine zR_drop 4 ?_
      refine zR_drop 5 ?_
      refine zR_drop 6 ?_
      refine zR_drop 7 ?_
      refine zR_drop 8 ?_
      exact h
theorem w_Mo_readBlock_0 {κ : zK} {d : Nat} {mem : zM} {Q : Option zV → zM → Prop}
    (h : zR κ d Y_Mo_take 0 [some (.inr 68), some (.inl 1), none, none] [] mem (fun r m1 => ∃ y2 : Int32, r = some (.inl y2) ∧ ((¬ y2 = 1 → zR κ (d + 1) Y_Mo_readBlock 14 [some (.inr 68), none, none, none, none] [.inl 0] m1 Q) ∧ (y2 = 1 → zR κ (d + 1) Y_Mo_readBlock 14 [some (.inr 68), none, none, none, none] [.inl 1] m1 Q)))) : zR κ (d + 1) Y_Mo_readBlock 0 [some (.inr 68), none, none, none, none] [] mem Q := by
  refine zR_aload_n d_Mo_readBlock_0 rfl rfl ?_
  refine zR_iconst (v := 1) d_Mo_readBlock_1 (by decide) ?_
  refine zR_callV (Y' := Y_Mo_take) (n := 1) (A := [.inl 1]) (b := 68) (S := []) v_Mo_take g_280 sh_68 cl_Mo rfl d_Mo_readBlock_2 rfl (Nat.le_of_ble_eq_true rfl) rfl (zR_cons ?_ h)
  rintro r_ m1 ⟨y2, rfl, h⟩
  show zR κ (d + 1) Y_Mo_readBlock 5 [some (.inr 68), none, none, none, none] [.inl y2] m1 Q
  refine zR_iconst (v := 1) d_Mo_readBlock_5 (by decide) ?_
  refine zR_icmp_ne (tgt := 13) d_Mo_readBlock_6 (by decide) (fun h1 => ?_) (fun h1 => ?_)
  · replace h := h.1 h1
    refine zR_iconst (v := 0) d_Mo_readBlock_13 (by decide) ?_
    exact h
  · replace h := h.2 h1
    refine zR_iconst (v := 1) d_Mo_readBlock_9 (by decide) ?_
    refine zR_goto (tgt := 14) d_Mo_readBlock_10 (by decide) ?_
    exact h
theorem w_Mo_readBlock_14 {κ : zK} {d : Nat} {mem : zM} {Q : Option zV → zM → Prop} {s0 : Int32}
    (h : ((s0 = 0 → zR κ (d + 1) Y_Mo_readBlock 30 [some (.inr 68), some (.inl s0), none, none, none] [] mem Q) ∧ (¬ s0 = 0 → zR κ d Y_Mo_take 0 [some (.inr 68), some (.inl 1), none, none] [] mem (fun r m1 => ∃ y2 : Int32, r = some (.inl y2) ∧ ((¬ y2 = 1 → zR κ (d + 1) Y_Mo_readBlock 30 [some (.inr 68), some (.inl s0), none, none, none] [] m1 Q) ∧ (y2 = 1 → Q (some (.inl 1)) m1)))))) : zR κ (d + 1) Y_Mo_readBlock 14 [some (.inr 68), none, none, none, none] [.inl s0] mem Q := by
  refine zR_istore_n d_Mo_readBlock_14 rfl (by decide) ?_
  refine zR_iload_n d_Mo_readBlock_15 rfl rfl ?_
  refine zR_if_eq (tgt := 30) d_Mo_readBlock_16 (by decide) (fun h1 => ?_) (fun h1 => ?_)
  · replace h := h.1 h1
    exact h
  · replace h := h.2 h1
    refine zR_aload_n d_Mo_readBlock_19 rfl rfl ?_
    refine zR_iconst (v := 1) d_Mo_readBlock_20 (by decide) ?_
    refine zR_callV (Y' := Y_Mo_take) (n := 1) (A := [.inl 1]) (b := 68) (S := []) v_Mo_take g_280 sh_68 cl_Mo rfl d_Mo_readBlock_21 rfl (Nat.le_of_ble_eq_true rfl) rfl (zR_cons ?_ h)
    rintro r_ m1 ⟨y2, rfl, h⟩
    show zR κ (d + 1) Y_Mo_readBlock 24 [some (.inr 68), some (.inl s0), none, none, none] [.inl y2] m1 Q
    refine zR_iconst (v := 1) d_Mo_readBlock_24 (by decide) ?_
    refine zR_icmp_ne (tgt := 30) d_Mo_readBlock_25 (by decide) (fun h1 => ?_) (fun h1 => ?_)
    · replace h := h.1 h1
      exact h
    · replace h := h.2 h1
      refine zR_iconst (v := 1) d_Mo_readBlock_28 (by decide) ?_
      exact zR_zreturn rfl d_Mo_readBlock_29 (Or.inr rfl) h
theorem w_Mo_readBlock_30 {κ : zK} {d : Nat} {mem : zM} {Q : Option zV → zM → Prop} {x1 : Int32}
    (h : zR κ d Y_Mo_take 0 [some (.inr 68), some (.inl 1), none, none] [] mem (fun r m1 => ∃ y2 : Int32, r = some (.inl y2) ∧ ((¬ y2 = 1 → zR κ (d + 1) Y_Mo_readBlock 44 [some (.inr 68), some (.inl x1), none, none, none] [.inl 0] m1 Q) ∧ (y2 = 1 → zR κ (d + 1) Y_Mo_readBlock 44 [some (.inr 68), some (.inl x1), none, none, none] [.inl 1] m1 Q)))) : zR κ (d + 1) Y_Mo_readBlock 30 [some (.inr 68), some (.inl x1), none, none, none] [] mem Q := by
  refine zR_aload_n d_Mo_readBlock_30 rfl rfl ?_
  refine zR_iconst (v := 1) d_Mo_readBlock_31 (by decide) ?_
  refine zR_callV (Y' := Y_Mo_take) (n := 1) (A := [.inl 1]) (b := 68) (S := []) v_Mo_take g_280 sh_68 cl_Mo rfl d_Mo_readBlock_32 rfl (Nat.le_of_ble_eq_true rfl) rfl (zR_cons ?_ h)
  rintro r_ m1 ⟨y2, rfl, h⟩
  show zR κ (d + 1) Y_Mo_readBlock 35 [some (.inr 68), some (.inl x1), none, none, none] [.inl y2] m1 Q
  refine zR_iconst (v := 1) d_Mo_readBlock_35 (by decide) ?_
  refine zR_icmp_ne (tgt := 43) d_Mo_readBlock_36 (by decide) (fun h1 => ?_) (fun h1 => ?_)
  · replace h := h.1 h1
    refine zR_iconst (v := 0) d_Mo_readBlock_43 (by decide) ?_
    exact h
  · replace h := h.2 h1
    refine zR_iconst (v := 1) d_Mo_readBlock_39 (by decide) ?_
    refine zR_goto (tgt := 44) d_Mo_readBlock_40 (by decide) ?_
    exact h
theorem w_Mo_readBlock_44 {κ : zK} {d : Nat} {mem : zM} {Q : Option zV → zM → Prop} {x1 s0 : Int32}
    (h : zR κ d Y_Mo_take 0 [some (.inr 68), some (.inl 6), none, none] [] mem (fun r m1 => ∃ y2 : Int32, r = some (.inl y2) ∧ ((s0 = 0 → zR κ d Y_Mo_pad 0 [some (.inr 68)] [] m1 (fun r m3 => r = none ∧ zR κ (d + 1) Y_Mo_readBlock 74 [some (.inr 68), some (.inl x1), some (.inl s0), some (.inl (((mem 68 29) + y2) + 1)), none] [] m3 Q)) ∧ (¬ s0 = 0 → zR κ d Y_Mo_readCoded 0 [some (.inr 68), some (.inl (((mem 68 29) + y2) + 1)), none, none, none, none, none, none, none, none, none] [] m1 (fun r m4 => r = none ∧ (x1 = 0 ∨ x1 = 1) ∧ Q (some (.inl x1)) m4))))) : zR κ (d + 1) Y_Mo_readBlock 44 [some (.inr 68), some (.inl x1), none, none, none] [.inl s0] mem Q := by
  refine zR_istore_n d_Mo_readBlock_44 rfl (by decide) ?_
  refine zR_aload_n d_Mo_readBlock_45 rfl rfl ?_
  refine zR_getI (j := 29) d_Mo_readBlock_46 sh_68 cl_Mo rfl (by decide) g_282 ?_
  refine zR_aload_n d_Mo_readBlock_49 rfl rfl ?_
  refine zR_bipush (v := 6) d_Mo_readBlock_50 (by decide) ?_
  refine zR_callV (Y' := Y_Mo_take) (n := 1) (A := [.inl 6]) (b := 68) (S := [.inl (mem 68 29)]) v_Mo_take g_280 sh_68 cl_Mo rfl d_Mo_readBlock_52 rfl (Nat.le_of_ble_eq_true rfl) rfl (zR_cons ?_ h)
  rintro r_ m1 ⟨y2, rfl, h⟩
  show zR κ (d + 1) Y_Mo_readBlock 55 [some (.inr 68), some (.inl x1), some (.inl s0), none, none] [.inl y2, .inl (mem 68 29)] m1 Q
  refine zR_iadd d_Mo_readBlock_55 ?_
  refine zR_iconst (v := 1) d_Mo_readBlock_56 (by decide) ?_
  refine zR_iadd d_Mo_readBlock_57 ?_
  refine zR_istore_n d_Mo_readBlock_58 rfl (by decide) ?_
  refine zR_iload_n d_Mo_readBlock_59 rfl rfl ?_
  refine zR_if_eq (tgt := 70) d_Mo_readBlock_60 (by decide) (fun h1 => ?_) (fun h1 => ?_)
  · replace h := h.1 h1
    refine zR_aload_n d_Mo_readBlock_70 rfl rfl ?_
    refine zR_callV (Y' := Y_Mo_pad) (n := 0) (A := []) (b := 68) (S := []) v_Mo_pad g_289 sh_68 cl_Mo rfl d_Mo_readBlock_71 rfl (Nat.le_of_ble_eq_true rfl) rfl (zR_cons ?_ h)
    rintro r_ m3 ⟨rfl, h⟩
    show zR κ (d + 1) Y_Mo_readBlock 74 [some (.inr 68), some (.inl x1), some (.inl s0), some (.inl (((mem 68 29) + y2) + 1)), none] [] m3 Q
    exact h
  · replace h := h.2 h1
    refine zR_aload_n d_Mo_readBlock_63 rfl rfl ?_
    refine zR_iload_n d_Mo_readBlock_64 rfl rfl ?_
    refine zR_callV (Y' := Y_Mo_readCoded) (n := 1) (A := [.inl (((mem 68 29) + y2) + 1)]) (b := 68) (S := []) v_Mo_readCoded g_290 sh_68 cl_Mo rfl d_Mo_readBlock_65 rfl (Nat.le_of_ble_eq_true rfl) rfl (zR_cons ?_ h)
    rintro r_ m4 ⟨rfl, h⟩
    show zR κ (d + 1) Y_Mo_readBlock 68 [some (.inr 68), some (.inl x1), some (.inl s0), some (.inl (((mem 68 29) + y2) + 1)), none] [] m4 Q
    refine zR_iload_n d_Mo_readBlock_68 rfl rfl ?_
    exact zR_zreturn rfl d_Mo_readBlock_69 h.1 h.2
theorem w_Mo_readBlock_74 {κ : zK} {d : Nat} {mem : zM} {Q : Option zV → zM → Prop} {x1 x2 x3 : Int32}
    (h : ((¬ (mem 68 28) = 0 → (x1 = 0 ∨ x1 = 1) ∧ Q (some (.inl x1)) mem) ∧ ((mem 68 28) = 0 → ((x3 ≤ (mem 68 29) → (x1 = 0 ∨ x1 = 1) ∧ Q (some (.inl x1)) mem) ∧ (¬ x3 ≤ (mem 68 29) → zR κ d Y_Mo_take 0 [some (.inr 68), some (.inl 8), none, none] [] mem (fun r m1 => ∃ y2 : Int32, r = some (.inl y2) ∧ zR κ d Y_Mo_make 0 [some (.inr 68), some (.inl y2), some (.inl x3)] [] m1 (fun r m3 => r = none ∧ zR κ (d + 1) Y_Mo_readBlock 74 [some (.inr 68), some (.inl x1), some (.inl x2), some (.inl x3), none] [] m3 Q))))))) : zR κ (d + 1) Y_Mo_readBlock 74 [some (.inr 68), some (.inl x1), some (.inl x2), some (.inl x3), none] [] mem Q := by
  refine zR_aload_n d_Mo_readBlock_74 rfl rfl ?_
  refine zR_getI (j := 28) d_Mo_readBlock_75 sh_68 cl_Mo rfl (by decide) g_279 ?_
  refine zR_if_ne (tgt := 107) d_Mo_readBlock_78 (by decide) (fun h1 => ?_) (fun h1 => ?_)
  · replace h := h.1 h1
    refine zR_iload_n d_Mo_readBlock_107 rfl rfl ?_
    exact zR_zreturn rfl d_Mo_readBlock_108 h.1 h.2
  · replace h := h.2 h1
    refine zR_aload_n d_Mo_readBlock_81 rfl rfl ?_
    refine zR_getI (j := 29) d_Mo_readBlock_82 sh_68 cl_Mo rfl (by decide) g_282 ?_
    refine zR_iload_n d_Mo_readBlock_85 rfl rfl ?_
    refine zR_icmp_ge (tgt := 107) d_Mo_readBlock_86 (by decide) (fun h1 => ?_) (fun h1 => ?_)
    · replace h := h.1 h1
      refine zR_iload_n d_Mo_readBlock_107 rfl rfl ?_
      exact zR_zreturn rfl d_Mo_readBlock_108 h.1 h.2
    · replace h := h.2 h1
      refine zR_aload_n d_Mo_readBlock_89 rfl rfl ?_
      refine zR_bipush (v := 8) d_Mo_readBlock_90 (by decide) ?_
      refine zR_callV (Y' := Y_Mo_take) (n := 1) (A := [.inl 8]) (b := 68) (S := []) v_Mo_take g_280 sh_68 cl_Mo rfl d_Mo_readBlock_92 rfl (Nat.le_of_ble_eq_true rfl) rfl (zR_cons ?_ h)
      rintro r_ m1 ⟨y2, rfl, h⟩
      show zR κ (d + 1) Y_Mo_readBlock 95 [some (.inr 68), some (.inl x1), some (.inl x2), some (.inl x3), none] [.inl y2] m1 Q
      refine zR_istore d_Mo_readBlock_95 (by decide) ?_
      refine zR_aload_n d_Mo_readBlock_97 rfl rfl ?_
      refine zR_iload d_Mo_readBlock_98 rfl ?_
      refine zR_iload_n d_Mo_readBlock_100 rfl rfl ?_
      refine zR_callV (Y' := Y_Mo_make) (n := 2) (A := [.inl y2, .inl x3]) (b := 68) (S := []) v_Mo_make g_286 sh_68 cl_Mo rfl d_Mo_readBlock_101 rfl (Nat.le_of_ble_eq_true rfl) rfl (zR_cons ?_ h)
      rintro r_ m3 ⟨rfl, h⟩
      show zR κ (d + 1) Y_Mo_readBlock 104 [some (.inr 68), some (.inl x1), some (.inl x2), some (.inl x3), some (.inl y2)] [] m3 Q
      refine zR_goto (tgt := 74) d_Mo_readBlock_104 (by decide) ?_
      refine zR_drop 4 ?_
      exact h
theorem w_Mo_unpack_0 {κ : zK} {d : Nat} {mem : zM} {Q : Option zV → zM → Prop}
    (h : zR κ d Y_Mo_counts 0 [some (.inr 68), none] [] mem (fun r m1 => r = none ∧ zR κ (d + 1) Y_Mo_unpack 43 [some (.inr 68), some (.inl (mem 68 4)), some (.inl (mem 68 5)), some (.inl (mem 68 6)), some (.inl (mem 68 7)), some (.inl 0), none] [] (zms (zms (zms m1 68 8 0) 68 29 0) 68 28 0) Q)) : zR κ (d + 1) Y_Mo_unpack 0 [some (.inr 68), none, none, none, none, none, none] [] mem Q := by
  refine zR_aload_n d_Mo_unpack_0 rfl rfl ?_
  refine zR_getI (j := 4) d_Mo_unpack_1 sh_68 cl_Mo rfl (by decide) g_225 ?_
  refine zR_istore_n d_Mo_unpack_4 rfl (by decide) ?_
  refine zR_aload_n d_Mo_unpack_5 rfl rfl ?_
  refine zR_getI (j := 5) d_Mo_unpack_6 sh_68 cl_Mo rfl (by decide) g_226 ?_
  refine zR_istore_n d_Mo_unpack_9 rfl (by decide) ?_
  refine zR_aload_n d_Mo_unpack_10 rfl rfl ?_
  refine zR_getI (j := 6) d_Mo_unpack_11 sh_68 cl_Mo rfl (by decide) g_227 ?_
  refine zR_istore_n d_Mo_unpack_14 rfl (by decide) ?_
  refine zR_aload_n d_Mo_unpack_15 rfl rfl ?_
  refine zR_getI (j := 7) d_Mo_unpack_16 sh_68 cl_Mo rfl (by decide) g_228 ?_
  refine zR_istore d_Mo_unpack_19 (by decide) ?_
  refine zR_aload_n d_Mo_unpack_21 rfl rfl ?_
  refine zR_callV (Y' := Y_Mo_counts) (n := 0) (A := []) (b := 68) (S := []) v_Mo_counts g_277 sh_68 cl_Mo rfl d_Mo_unpack_22 rfl (Nat.le_of_ble_eq_true rfl) rfl (zR_cons ?_ h)
  rintro r_ m1 ⟨rfl, h⟩
  show zR κ (d + 1) Y_Mo_unpack 25 [some (.inr 68), some (.inl (mem 68 4)), some (.inl (mem 68 5)), some (.inl (mem 68 6)), some (.inl (mem 68 7)), none, none] [] m1 Q
  refine zR_aload_n d_Mo_unpack_25 rfl rfl ?_
  refine zR_iconst (v := 0) d_Mo_unpack_26 (by decide) ?_
  refine zR_put (j := 8) (ty := .int) d_Mo_unpack_27 sh_68 cl_Mo rfl (by decide) rfl (by decide +kernel) g_258 (zint _) ?_
  refine zR_aload_n d_Mo_unpack_30 rfl rfl ?_
  refine zR_iconst (v := 0) d_Mo_unpack_31 (by decide) ?_
  refine zR_put (j := 29) (ty := .int) d_Mo_unpack_32 sh_68 cl_Mo rfl (by decide) rfl (by decide +kernel) g_282 (zint _) ?_
  refine zR_aload_n d_Mo_unpack_35 rfl rfl ?_
  refine zR_iconst (v := 0) d_Mo_unpack_36 (by decide) ?_
  refine zR_put (j := 28) (ty := .boolean) d_Mo_unpack_37 sh_68 cl_Mo rfl (by decide) rfl (by decide +kernel) g_279 (zbool (Or.inl rfl)) ?_
  refine zR_iconst (v := 0) d_Mo_unpack_40 (by decide) ?_
  refine zR_istore d_Mo_unpack_41 (by decide) ?_
  exact h
theorem w_Mo_unpack_43 {κ : zK} {d : Nat} {mem : zM} {Q : Option zV → zM → Prop} {x1 x2 x3 x4 x5 : Int32}
    (h : ((¬ x5 = 0 → zR κ (d + 1) Y_Mo_unpack 64 [some (.inr 68), some (.inl x1), some (.inl x2), some (.inl x3), some (.inl x4), some (.inl x5), none] [] mem Q) ∧ (x5 = 0 → ((¬ (mem 68 28) = 0 → zR κ (d + 1) Y_Mo_unpack 64 [some (.inr 68), some (.inl x1), some (.inl x2), some (.inl x3), some (.inl x4), some (.inl x5), none] [] mem Q) ∧ ((mem 68 28) = 0 → zR κ d Y_Mo_readBlock 0 [some (.inr 68), none, none, none, none] [] mem (fun r m1 => ∃ y2 : Int32, r = some (.inl y2) ∧ zR κ (d + 1) Y_Mo_unpack 43 [some (.inr 68), some (.inl x1), some (.inl x2), some (.inl x3), some (.inl x4), some (.inl y2), none] [] m1 Q)))))) : zR κ (d + 1) Y_Mo_unpack 43 [some (.inr 68), some (.inl x1), some (.inl x2), some (.inl x3), some (.inl x4), some (.inl x5), none] [] mem Q := by
  refine zR_iload d_Mo_unpack_43 rfl ?_
  refine zR_if_ne (tgt := 64) d_Mo_unpack_45 (by decide) (fun h1 => ?_) (fun h1 => ?_)
  · replace h := h.1 h1
    exact h
  · replace h := h.2 h1
    refine zR_aload_n d_Mo_unpack_48 rfl rfl ?_
    refine zR_getI (j := 28) d_Mo_unpack_49 sh_68 cl_Mo rfl (by decide) g_279 ?_
    refine zR_if_ne (tgt := 64) d_Mo_unpack_52 (by decide) (fun h1 => ?_) (fun h1 => ?_)
    · replace h := h.1 h1
      exact h
    · replace h := h.2 h1
      refine zR_aload_n d_Mo_unpack_55 rfl rfl ?_
      refine zR_callV (Y' := Y_Mo_readBlock) (n := 0) (A := []) (b := 68) (S := []) v_Mo_readBlock g_291 sh_68 cl_Mo rfl d_Mo_unpack_56 rfl (Nat.le_of_ble_eq_true rfl) rfl (zR_cons ?_ h)
      rintro r_ m1 ⟨y2, rfl, h⟩
      show zR κ (d + 1) Y_Mo_unpack 59 [some (.inr 68), some (.inl x1), some (.inl x2), some (.inl x3), some (.inl x4), some (.inl x5), none] [.inl y2] m1 Q
      refine zR_istore d_Mo_unpack_59 (by decide) ?_
      refine zR_goto (tgt := 43) d_Mo_unpack_61 (by decide) ?_
      exact h
theorem w_Mo_unpack_64 {κ : zK} {d : Nat} {mem : zM} {Q : Option zV → zM → Prop} {x1 x2 x3 x4 x5 : Int32}
    (h : zR κ d Y_Mo_pad 0 [some (.inr 68)] [] mem (fun r m1 => r = none ∧ ((¬ (m1 68 28) = 0 → zR κ (d + 1) Y_Mo_unpack 89 [some (.inr 68), some (.inl x1), some (.inl x2), some (.inl x3), some (.inl x4), some (.inl x5), none] [] m1 Q) ∧ ((m1 68 28) = 0 → (((m1 68 8) = (8 * (m1 68 2)) → zR κ (d + 1) Y_Mo_unpack 123 [some (.inr 68), some (.inl x1), some (.inl x2), some (.inl x3), some (.inl x4), some (.inl x5), some (.inl 0)] [] (zms m1 68 0 (m1 68 29)) Q) ∧ (¬ (m1 68 8) = (8 * (m1 68 2)) → zR κ (d + 1) Y_Mo_unpack 89 [some (.inr 68), some (.inl x1), some (.inl x2), some (.inl x3), some (.inl x4), some (.inl x5), none] [] m1 Q)))))) : zR κ (d + 1) Y_Mo_unpack 64 [some (.inr 68), some (.inl x1), some (.inl x2), some (.inl x3), some (.inl x4), some (.inl x5), none] [] mem Q := by
  refine zR_aload_n d_Mo_unpack_64 rfl rfl ?_
  refine zR_callV (Y' := Y_Mo_pad) (n := 0) (A := []) (b := 68) (S := []) v_Mo_pad g_289 sh_68 cl_Mo rfl d_Mo_unpack_65 rfl (Nat.le_of_ble_eq_true rfl) rfl (zR_cons ?_ h)
  rintro r_ m1 ⟨rfl, h⟩
  show zR κ (d + 1) Y_Mo_unpack 68 [some (.inr 68), some (.inl x1), some (.inl x2), some (.inl x3), some (.inl x4), some (.inl x5), none] [] m1 Q
  refine zR_aload_n d_Mo_unpack_68 rfl rfl ?_
  refine zR_getI (j := 28) d_Mo_unpack_69 sh_68 cl_Mo rfl (by decide) g_279 ?_
  refine zR_if_ne (tgt := 89) d_Mo_unpack_72 (by decide) (fun h1 => ?_) (fun h1 => ?_)
  · replace h := h.1 h1
    exact h
  · replace h := h.2 h1
    refine zR_aload_n d_Mo_unpack_75 rfl rfl ?_
    refine zR_getI (j := 8) d_Mo_unpack_76 sh_68 cl_Mo rfl (by decide) g_258 ?_
    refine zR_bipush (v := 8) d_Mo_unpack_79 (by decide) ?_
    refine zR_aload_n d_Mo_unpack_81 rfl rfl ?_
    refine zR_getI (j := 2) d_Mo_unpack_82 sh_68 cl_Mo rfl (by decide) g_223 ?_
    refine zR_imul d_Mo_unpack_85 ?_
    refine zR_icmp_eq (tgt := 112) d_Mo_unpack_86 (by decide) (fun h1 => ?_) (fun h1 => ?_)
    · replace h := h.1 h1
      refine zR_aload_n d_Mo_unpack_112 rfl rfl ?_
      refine zR_aload_n d_Mo_unpack_113 rfl rfl ?_
      refine zR_getI (j := 29) d_Mo_unpack_114 sh_68 cl_Mo rfl (by decide) g_282 ?_
      refine zR_put (j := 0) (ty := .int) d_Mo_unpack_117 sh_68 cl_Mo rfl (by decide) rfl (by decide +kernel) g_221 (zint _) ?_
      refine zR_iconst (v := 0) d_Mo_unpack_120 (by decide) ?_
      refine zR_istore d_Mo_unpack_121 (by decide) ?_
      exact h
    · replace h := h.2 h1
      exact h
theorem w_Mo_unpack_89 {κ : zK} {d : Nat} {mem : zM} {Q : Option zV → zM → Prop} {x1 x2 x3 x4 x5 : Int32}
    (h : Q (some (.inl (-1))) (zms (zms (zms (zms mem 68 4 x1) 68 5 x2) 68 6 x3) 68 7 x4)) : zR κ (d + 1) Y_Mo_unpack 89 [some (.inr 68), some (.inl x1), some (.inl x2), some (.inl x3), some (.inl x4), some (.inl x5), none] [] mem Q := by
  refine zR_aload_n d_Mo_unpack_89 rfl rfl ?_
  refine zR_iload_n d_Mo_unpack_90 rfl rfl ?_
  refine zR_put (j := 4) (ty := .int) d_Mo_unpack_91 sh_68 cl_Mo rfl (by decide) rfl (by decide +kernel) g_225 (zint _) ?_
  refine zR_aload_n d_Mo_unpack_94 rfl rfl ?_
  refine zR_iload_n d_Mo_unpack_95 rfl rfl ?_
  refine zR_put (j := 5) (ty := .int) d_Mo_unpack_96 sh_68 cl_Mo rfl (by decide) rfl (by decide +kernel) g_226 (zint _) ?_
  refine zR_aload_n d_Mo_unpack_99 rfl rfl ?_
  refine zR_iload_n d_Mo_unpack_100 rfl rfl ?_
  refine zR_put (j := 6) (ty := .int) d_Mo_unpack_101 sh_68 cl_Mo rfl (by decide) rfl (by decide +kernel) g_227 (zint _) ?_
  refine zR_aload_n d_Mo_unpack_104 rfl rfl ?_
  refine zR_iload d_Mo_unpack_105 rfl ?_
  refine zR_put (j := 7) (ty := .int) d_Mo_unpack_107 sh_68 cl_Mo rfl (by decide) rfl (by decide +kernel) g_228 (zint _) ?_
  refine zR_iconst (v := (-1)) d_Mo_unpack_110 (by decide) ?_
  exact zR_ireturn rfl d_Mo_unpack_111 h
theorem w_Mo_unpack_123 {κ : zK} {d : Nat} {mem : zM} {Q : Option zV → zM → Prop} {x1 x2 x3 x4 x5 x6 : Int32}
    (h : (((mem 68 29) ≤ x6 → Q (some (.inl (mem 68 0))) mem) ∧ (¬ (mem 68 29) ≤ x6 → vp_in x6 96 ∧ vp_in x6 96 ∧ zR κ (d + 1) Y_Mo_unpack 123 [some (.inr 68), some (.inl x1), some (.inl x2), some (.inl x3), some (.inl x4), some (.inl x5), some (.inl (x6 + 1))] [] (zms mem 69 x6.toNatClampNeg (mem 84 x6.toNatClampNeg)) Q))) : zR κ (d + 1) Y_Mo_unpack 123 [some (.inr 68), some (.inl x1), some (.inl x2), some (.inl x3), some (.inl x4), some (.inl x5), some (.inl x6)] [] mem Q := by
  refine zR_iload d_Mo_unpack_123 rfl ?_
  refine zR_aload_n d_Mo_unpack_125 rfl rfl ?_
  refine zR_getI (j := 29) d_Mo_unpack_126 sh_68 cl_Mo rfl (by decide) g_282 ?_
  refine zR_icmp_ge (tgt := 152) d_Mo_unpack_129 (by decide) (fun h1 => ?_) (fun h1 => ?_)
  · replace h := h.1 h1
    refine zR_aload_n d_Mo_unpack_152 rfl rfl ?_
    refine zR_getI (j := 0) d_Mo_unpack_153 sh_68 cl_Mo rfl (by decide) g_221 ?_
    exact zR_ireturn rfl d_Mo_unpack_156 h
  · replace h := h.2 h1
    refine zR_aload_n d_Mo_unpack_132 rfl rfl ?_
    refine zR_getR (j := 1) d_Mo_unpack_133 sh_68 cl_Mo rfl (by decide) g_222 ?_
    refine zR_iload d_Mo_unpack_136 rfl ?_
    refine zR_aload_n d_Mo_unpack_138 rfl rfl ?_
    refine zR_getR (j := 30) d_Mo_unpack_139 sh_68 cl_Mo rfl (by decide) g_283 ?_
    refine zR_iload d_Mo_unpack_142 rfl ?_
    refine zR_iaload d_Mo_unpack_144 sh_84 h.1 rfl ?_
    replace h := h.2
    refine zR_iastore d_Mo_unpack_145 sh_69 h.1 rfl ?_
    replace h := h.2
    refine zR_iinc (v := 1) d_Mo_unpack_146 rfl (by decide) (by decide) ?_
    refine zR_goto (tgt := 123) d_Mo_unpack_149 (by decide) ?_
    exact h
