/-! pieces of RingPacker$Text -/
theorem w_Text_add_0 {κ : zK} {d : Nat} {mem : zM} {Q : Option zV → zM → Prop} {c : Nat} {x1 : Int32} (hc : is_Text c)
    (h : zR κ d Y_Rp_isByte 0 [some (.inl x1)] [] mem (fun r m1 => ∃ y2 : Int32, r = some (.inl y2) ∧ ((y2 = 0 → Q (some (.inl 0)) m1) ∧ (¬ y2 = 0 → (((m1 c 1) < 96 → vp_in (m1 c 1) 96 ∧ Q (some (.inl 1)) (zms (zms m1 (c + 1) (m1 c 1).toNatClampNeg x1) c 1 (((zms m1 (c + 1) (m1 c 1).toNatClampNeg x1) c 1) + 1))) ∧ (¬ (m1 c 1) < 96 → Q (some (.inl 0)) m1)))))) : zR κ (d + 1) Y_Text_add 0 [some (.inr c), some (.inl x1)] [] mem Q := by
  refine zR_iload_n d_Text_add_0 rfl rfl ?_
  refine zR_callSN (Y' := Y_Rp_isByte) (n := 1) (A := [.inl x1]) (S := []) v_Rp_isByte n_142 d_Text_add_1 rfl (Nat.le_of_ble_eq_true rfl) rfl (zR_cons ?_ h)
  rintro r_ m1 ⟨y2, rfl, h⟩
  show zR κ (d + 1) Y_Text_add 4 [some (.inr c), some (.inl x1)] [.inl y2] m1 Q
  refine zR_if_eq (tgt := 16) d_Text_add_4 (by decide) (fun h1 => ?_) (fun h1 => ?_)
  · replace h := h.1 h1
    refine zR_iconst (v := 0) d_Text_add_16 (by decide) ?_
    exact zR_zreturn rfl d_Text_add_17 (Or.inl rfl) h
  · replace h := h.2 h1
    refine zR_aload_n d_Text_add_7 rfl rfl ?_
    refine zR_getI (j := 1) d_Text_add_8 hc.1 cl_Text rfl (by decide) g_143 ?_
    refine zR_bipush (v := 96) d_Text_add_11 (by decide) ?_
    refine zR_icmp_lt (tgt := 18) d_Text_add_13 (by decide) (fun h1 => ?_) (fun h1 => ?_)
    · replace h := h.1 h1
      refine zR_aload_n d_Text_add_18 rfl rfl ?_
      refine zR_getR (j := 0) d_Text_add_19 hc.1 cl_Text rfl (by decide) g_144 ?_
      refine zR_aload_n d_Text_add_22 rfl rfl ?_
      refine zR_getI (j := 1) d_Text_add_23 hc.1 cl_Text rfl (by decide) g_143 ?_
      refine zR_iload_n d_Text_add_26 rfl rfl ?_
      refine zR_iastore d_Text_add_27 hc.2 h.1 rfl ?_
      replace h := h.2
      refine zR_aload_n d_Text_add_28 rfl rfl ?_
      refine zR_dup d_Text_add_29 ?_
      refine zR_getI (j := 1) d_Text_add_30 hc.1 cl_Text rfl (by decide) g_143 ?_
      refine zR_iconst (v := 1) d_Text_add_33 (by decide) ?_
      refine zR_iadd d_Text_add_34 ?_
      refine zR_put (j := 1) (ty := .int) d_Text_add_35 hc.1 cl_Text rfl (by decide) rfl (by decide +kernel) g_143 (zint _) ?_
      refine zR_iconst (v := 1) d_Text_add_38 (by decide) ?_
      exact zR_zreturn rfl d_Text_add_39 (Or.inr rfl) h
    · replace h := h.2 h1
      refine zR_iconst (v := 0) d_Text_add_16 (by decide) ?_
      exact zR_zreturn rfl d_Text_add_17 (Or.inl rfl) h
theorem w_Text_get_0 {κ : zK} {d : Nat} {mem : zM} {Q : Option zV → zM → Prop} {c : Nat} {x1 : Int32} (hc : is_Text c)
    (h : ((x1 < 0 → Q (some (.inl (-1))) mem) ∧ (¬ x1 < 0 → (((mem c 1) ≤ x1 → Q (some (.inl (-1))) mem) ∧ (¬ (mem c 1) ≤ x1 → vp_in x1 96 ∧ Q (some (.inl (mem (c + 1) x1.toNatClampNeg))) mem))))) : zR κ d Y_Text_get 0 [some (.inr c), some (.inl x1)] [] mem Q := by
  refine zR_iload_n d_Text_get_0 rfl rfl ?_
  refine zR_if_lt (tgt := 21) d_Text_get_1 (by decide) (fun h1 => ?_) (fun h1 => ?_)
  · replace h := h.1 h1
    refine zR_iconst (v := (-1)) d_Text_get_21 (by decide) ?_
    exact zR_ireturn rfl d_Text_get_22 h
  · replace h := h.2 h1
    refine zR_iload_n d_Text_get_4 rfl rfl ?_
    refine zR_aload_n d_Text_get_5 rfl rfl ?_
    refine zR_getI (j := 1) d_Text_get_6 hc.1 cl_Text rfl (by decide) g_143 ?_
    refine zR_icmp_ge (tgt := 21) d_Text_get_9 (by decide) (fun h1 => ?_) (fun h1 => ?_)
    · replace h := h.1 h1
      refine zR_iconst (v := (-1)) d_Text_get_21 (by decide) ?_
      exact zR_ireturn rfl d_Text_get_22 h
    · replace h := h.2 h1
      refine zR_aload_n d_Text_get_12 rfl rfl ?_
      refine zR_getR (j := 0) d_Text_get_13 hc.1 cl_Text rfl (by decide) g_144 ?_
      refine zR_iload_n d_Text_get_16 rfl rfl ?_
      refine zR_iaload d_Text_get_17 hc.2 h.1 rfl ?_
      replace h := h.2
      refine zR_goto (tgt := 22) d_Text_get_18 (by decide) ?_
      exact zR_ireturn rfl d_Text_get_22 h
theorem w_Text_makeEmpty_0 {κ : zK} {d : Nat} {mem : zM} {Q : Option zV → zM → Prop} {c : Nat} (hc : is_Text c)
    (h : Q none (zms mem c 1 0)) : zR κ d Y_Text_makeEmpty 0 [some (.inr c)] [] mem Q := by
  refine zR_aload_n d_Text_makeEmpty_0 rfl rfl ?_
  refine zR_iconst (v := 0) d_Text_makeEmpty_1 (by decide) ?_
  refine zR_put (j := 1) (ty := .int) d_Text_makeEmpty_2 hc.1 cl_Text rfl (by decide) rfl (by decide +kernel) g_143 (zint _) ?_
  exact zR_return rfl d_Text_makeEmpty_5 h
theorem w_Text_become_0 {κ : zK} {d : Nat} {mem : zM} {Q : Option zV → zM → Prop} {c c1 : Nat} (hc : is_Text c) (hc1 : is_Text c1)
    (h : Q none (zms (zmr mem (c + 1) (va_cpy (mem (c1 + 1)) (mem (c + 1)) 0 0 96)) c 1 ((zmr mem (c + 1) (va_cpy (mem (c1 + 1)) (mem (c + 1)) 0 0 96)) c1 1))) : zR κ (d + 1) Y_Text_become 0 [some (.inr c), some (.inr c1)] [] mem Q := by
  refine zR_aload_n d_Text_become_0 rfl rfl ?_
  refine zR_getR (j := 0) d_Text_become_1 hc1.1 cl_Text rfl (by decide) g_144 ?_
  refine zR_iconst (v := 0) d_Text_become_4 (by decide) ?_
  refine zR_aload_n d_Text_become_5 rfl rfl ?_
  refine zR_getR (j := 0) d_Text_become_6 hc.1 cl_Text rfl (by decide) g_144 ?_
  refine zR_iconst (v := 0) d_Text_become_9 (by decide) ?_
  refine zR_bipush (v := 96) d_Text_become_10 (by decide) ?_
  refine zR_copy (i0 := 0) (i1 := 0) (i2 := 96) d_Text_become_12 g_145 hc1.2 hc.2 (by decide) (by decide) (by decide) (by decide) (by decide) (by decide) (by decide) (by decide) (Nat.le_of_ble_eq_true rfl) ?_
  refine zR_aload_n d_Text_become_15 rfl rfl ?_
  refine zR_aload_n d_Text_become_16 rfl rfl ?_
  refine zR_getI (j := 1) d_Text_become_17 hc1.1 cl_Text rfl (by decide) g_143 ?_
  refine zR_put (j := 1) (ty := .int) d_Text_become_20 hc.1 cl_Text rfl (by decide) rfl (by decide +kernel) g_143 (zint _) ?_
  exact zR_return rfl d_Text_become_23 h
theorem w_Text_followsSmallLetter_0 {κ : zK} {d : Nat} {mem : zM} {Q : Option zV → zM → Prop} {c : Nat} {x1 : Int32} (hc : is_Text c)
    (h : zR κ d Y_Text_get 0 [some (.inr c), some (.inl (x1 - 1))] [] mem (fun r m1 => ∃ y2 : Int32, r = some (.inl y2) ∧ ((y2 < 97 → Q (some (.inl 0)) m1) ∧ (¬ y2 < 97 → ((122 < y2 → Q (some (.inl 0)) m1) ∧ (¬ 122 < y2 → Q (some (.inl 1)) m1)))))) : zR κ (d + 1) Y_Text_followsSmallLetter 0 [some (.inr c), some (.inl x1), none] [] mem Q := by
  refine zR_aload_n d_Text_followsSmallLetter_0 rfl rfl ?_
  refine zR_iload_n d_Text_followsSmallLetter_1 rfl rfl ?_
  refine zR_iconst (v := 1) d_Text_followsSmallLetter_2 (by decide) ?_
  refine zR_isub d_Text_followsSmallLetter_3 ?_
  refine zR_callV (Y' := Y_Text_get) (n := 1) (A := [.inl (x1 - 1)]) (b := c) (S := []) v_Text_get g_146 hc.1 cl_Text rfl d_Text_followsSmallLetter_4 rfl (Nat.le_of_ble_eq_true rfl) rfl (zR_cons ?_ h)
  rintro r_ m1 ⟨y2, rfl, h⟩
  show zR κ (d + 1) Y_Text_followsSmallLetter 7 [some (.inr c), some (.inl x1), none] [.inl y2] m1 Q
  refine zR_istore_n d_Text_followsSmallLetter_7 rfl (by decide) ?_
  refine zR_iload_n d_Text_followsSmallLetter_8 rfl rfl ?_
  refine zR_bipush (v := 97) d_Text_followsSmallLetter_9 (by decide) ?_
  refine zR_icmp_lt (tgt := 24) d_Text_followsSmallLetter_11 (by decide) (fun h1 => ?_) (fun h1 => ?_)
  · replace h := h.1 h1
    refine zR_iconst (v := 0) d_Text_followsSmallLetter_24 (by decide) ?_
    exact zR_zreturn rfl d_Text_followsSmallLetter_25 (Or.inl rfl) h
  · replace h := h.2 h1
    refine zR_iload_n d_Text_followsSmallLetter_14 rfl rfl ?_
    refine zR_bipush (v := 122) d_Text_followsSmallLetter_15 (by decide) ?_
    refine zR_icmp_gt (tgt := 24) d_Text_followsSmallLetter_17 (by decide) (fun h1 => ?_) (fun h1 => ?_)
    · replace h := h.1 h1
      refine zR_iconst (v := 0) d_Text_followsSmallLetter_24 (by decide) ?_
      exact zR_zreturn rfl d_Text_followsSmallLetter_25 (Or.inl rfl) h
    · replace h := h.2 h1
      refine zR_iconst (v := 1) d_Text_followsSmallLetter_20 (by decide) ?_
      refine zR_goto (tgt := 25) d_Text_followsSmallLetter_21 (by decide) ?_
      exact zR_zreturn rfl d_Text_followsSmallLetter_25 (Or.inr rfl) h
theorem w_Text_equalBytes_0 {κ : zK} {d : Nat} {mem : zM} {Q : Option zV → zM → Prop} {c : Nat} {x1 x2 x3 : Int32} (hc : is_Text c)
    (h : zR κ (d + 1) Y_Text_equalBytes 15 [some (.inr c), some (.inl x1), some (.inl x2), some (.inl x3), some (.inl (if ((mem c 1) - x2) < x3 then ((mem c 1) - x2) else x3)), some (.inl 0)] [] mem Q) : zR κ (d + 1) Y_Text_equalBytes 0 [some (.inr c), some (.inl x1), some (.inl x2), some (.inl x3), none, none] [] mem Q := by
  refine zR_iload_n d_Text_equalBytes_0 rfl rfl ?_
  refine zR_aload_n d_Text_equalBytes_1 rfl rfl ?_
  refine zR_getI (j := 1) d_Text_equalBytes_2 hc.1 cl_Text rfl (by decide) g_143 ?_
  refine zR_iload_n d_Text_equalBytes_5 rfl rfl ?_
  refine zR_isub d_Text_equalBytes_6 ?_
  refine zR_min d_Text_equalBytes_7 g_147 (Nat.le_of_ble_eq_true rfl) ?_
  refine zR_istore d_Text_equalBytes_10 (by decide) ?_
  refine zR_iconst (v := 0) d_Text_equalBytes_12 (by decide) ?_
  refine zR_istore d_Text_equalBytes_13 (by decide) ?_
  exact h
theorem w_Text_equalBytes_15 {κ : zK} {d : Nat} {mem : zM} {Q : Option zV → zM → Prop} {c : Nat} {x1 x2 x3 x4 x5 : Int32} (hc : is_Text c)
    (h : ((x4 ≤ x5 → Q (some (.inl x5)) mem) ∧ (¬ x4 ≤ x5 → vp_in (x1 + x5) 96 ∧ vp_in (x2 + x5) 96 ∧ ((¬ (mem (c + 1) (x1 + x5).toNatClampNeg) = (mem (c + 1) (x2 + x5).toNatClampNeg) → Q (some (.inl x5)) mem) ∧ ((mem (c + 1) (x1 + x5).toNatClampNeg) = (mem (c + 1) (x2 + x5).toNatClampNeg) → zR κ (d + 1) Y_Text_equalBytes 15 [some (.inr c), some (.inl x1), some (.inl x2), some (.inl x3), some (.inl x4), some (.inl (x5 + 1))] [] mem Q))))) : zR κ (d + 1) Y_Text_equalBytes 15 [some (.inr c), some (.inl x1), some (.inl x2), some (.inl x3), some (.inl x4), some (.inl x5)] [] mem Q := by
  refine zR_iload d_Text_equalBytes_15 rfl ?_
  refine zR_iload d_Text_equalBytes_17 rfl ?_
  refine zR_icmp_ge (tgt := 49) d_Text_equalBytes_19 (by decide) (fun h1 => ?_) (fun h1 => ?_)
  · replace h := h.1 h1
    refine zR_iload d_Text_equalBytes_49 rfl ?_
    exact zR_ireturn rfl d_Text_equalBytes_51 h
  · replace h := h.2 h1
    refine zR_aload_n d_Text_equalBytes_22 rfl rfl ?_
    refine zR_getR (j := 0) d_Text_equalBytes_23 hc.1 cl_Text rfl (by decide) g_144 ?_
    refine zR_iload_n d_Text_equalBytes_26 rfl rfl ?_
    refine zR_iload d_Text_equalBytes_27 rfl ?_
    refine zR_iadd d_Text_equalBytes_29 ?_
    refine zR_iaload d_Text_equalBytes_30 hc.2 h.1 rfl ?_
    replace h := h.2
    refine zR_aload_n d_Text_equalBytes_31 rfl rfl ?_
    refine zR_getR (j := 0) d_Text_equalBytes_32 hc.1 cl_Text rfl (by decide) g_144 ?_
    refine zR_iload_n d_Text_equalBytes_35 rfl rfl ?_
    refine zR_iload d_Text_equalBytes_36 rfl ?_
    refine zR_iadd d_Text_equalBytes_38 ?_
    refine zR_iaload d_Text_equalBytes_39 hc.2 h.1 rfl ?_
    replace h := h.2
    refine zR_icmp_ne (tgt := 49) d_Text_equalBytes_40 (by decide) (fun h1 => ?_) (fun h1 => ?_)
    · replace h := h.1 h1
      refine zR_iload d_Text_equalBytes_49 rfl ?_
      exact zR_ireturn rfl d_Text_equalBytes_51 h
    · replace h := h.2 h1
      refine zR_iinc (v := 1) d_Text_equalBytes_43 rfl (by decide) (by decide) ?_
      refine zR_goto (tgt := 15) d_Text_equalBytes_46 (by decide) ?_
      exact h
