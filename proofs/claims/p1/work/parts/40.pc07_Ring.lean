/-! pieces of RingPacker$Ring -/
theorem w_Ring_reset_0 {κ : zK} {d : Nat} {mem : zM} {Q : Option zV → zM → Prop} {c : Nat} (hc : is_Ring c)
    (h : zR κ d Y_Ring_reset 2 [some (.inr c), some (.inl 0)] [] mem Q) : zR κ d Y_Ring_reset 0 [some (.inr c), none] [] mem Q := by
  refine zR_iconst (v := 0) d_Ring_reset_0 (by decide) ?_
  refine zR_istore_n d_Ring_reset_1 rfl (by decide) ?_
  exact h
theorem w_Ring_reset_2 {κ : zK} {d : Nat} {mem : zM} {Q : Option zV → zM → Prop} {c : Nat} {x1 : Int32} (hc : is_Ring c)
    (h : ((4 ≤ x1 → Q none mem) ∧ (¬ 4 ≤ x1 → vp_in x1 4 ∧ zR κ d Y_Ring_reset 2 [some (.inr c), some (.inl (x1 + 1))] [] (zms mem (c + 1) x1.toNatClampNeg ((1 : Int32) <<< (x1 &&& 31))) Q))) : zR κ d Y_Ring_reset 2 [some (.inr c), some (.inl x1)] [] mem Q := by
  refine zR_iload_n d_Ring_reset_2 rfl rfl ?_
  refine zR_iconst (v := 4) d_Ring_reset_3 (by decide) ?_
  refine zR_icmp_ge (tgt := 22) d_Ring_reset_4 (by decide) (fun h1 => ?_) (fun h1 => ?_)
  · replace h := h.1 h1
    exact zR_return rfl d_Ring_reset_22 h
  · replace h := h.2 h1
    refine zR_aload_n d_Ring_reset_7 rfl rfl ?_
    refine zR_getR (j := 0) d_Ring_reset_8 hc.1 cl_Ring rfl (by decide) g_137 ?_
    refine zR_iload_n d_Ring_reset_11 rfl rfl ?_
    refine zR_iconst (v := 1) d_Ring_reset_12 (by decide) ?_
    refine zR_iload_n d_Ring_reset_13 rfl rfl ?_
    refine zR_ishl d_Ring_reset_14 rfl ?_
    refine zR_iastore d_Ring_reset_15 hc.2 h.1 rfl ?_
    replace h := h.2
    refine zR_iinc (v := 1) d_Ring_reset_16 rfl (by decide) (by decide) ?_
    refine zR_goto (tgt := 2) d_Ring_reset_19 (by decide) ?_
    exact h
theorem w_Ring_become_0 {κ : zK} {d : Nat} {mem : zM} {Q : Option zV → zM → Prop} {c c1 : Nat} (hc : is_Ring c) (hc1 : is_Ring c1)
    (h : Q none (zmr mem (c + 1) (va_cpy (mem (c1 + 1)) (mem (c + 1)) 0 0 4))) : zR κ (d + 1) Y_Ring_become 0 [some (.inr c), some (.inr c1)] [] mem Q := by
  refine zR_aload_n d_Ring_become_0 rfl rfl ?_
  refine zR_getR (j := 0) d_Ring_become_1 hc1.1 cl_Ring rfl (by decide) g_137 ?_
  refine zR_iconst (v := 0) d_Ring_become_4 (by decide) ?_
  refine zR_aload_n d_Ring_become_5 rfl rfl ?_
  refine zR_getR (j := 0) d_Ring_become_6 hc.1 cl_Ring rfl (by decide) g_137 ?_
  refine zR_iconst (v := 0) d_Ring_become_9 (by decide) ?_
  refine zR_iconst (v := 4) d_Ring_become_10 (by decide) ?_
  refine zR_copy (i0 := 0) (i1 := 0) (i2 := 4) d_Ring_become_11 g_138 hc1.2 hc.2 (by decide) (by decide) (by decide) (by decide) (by decide) (by decide) (by decide) (by decide) (Nat.le_of_ble_eq_true rfl) ?_
  exact zR_return rfl d_Ring_become_14 h
theorem w_Ring_remember_0 {κ : zK} {d : Nat} {mem : zM} {Q : Option zV → zM → Prop} {c : Nat} {x1 : Int32} (hc : is_Ring c)
    (h : zR κ d Y_Ring_remember 2 [some (.inr c), some (.inl x1), some (.inl 3)] [] mem Q) : zR κ d Y_Ring_remember 0 [some (.inr c), some (.inl x1), none] [] mem Q := by
  refine zR_iconst (v := 3) d_Ring_remember_0 (by decide) ?_
  refine zR_istore_n d_Ring_remember_1 rfl (by decide) ?_
  exact h
theorem w_Ring_remember_2 {κ : zK} {d : Nat} {mem : zM} {Q : Option zV → zM → Prop} {c : Nat} {x1 x2 : Int32} (hc : is_Ring c)
    (h : ((x2 ≤ 0 → Q none (zms mem (c + 1) 0 x1)) ∧ (¬ x2 ≤ 0 → vp_in (x2 - 1) 4 ∧ vp_in x2 4 ∧ zR κ d Y_Ring_remember 2 [some (.inr c), some (.inl x1), some (.inl (x2 + (-1)))] [] (zms mem (c + 1) x2.toNatClampNeg (mem (c + 1) (x2 - 1).toNatClampNeg)) Q))) : zR κ d Y_Ring_remember 2 [some (.inr c), some (.inl x1), some (.inl x2)] [] mem Q := by
  refine zR_iload_n d_Ring_remember_2 rfl rfl ?_
  refine zR_if_le (tgt := 26) d_Ring_remember_3 (by decide) (fun h1 => ?_) (fun h1 => ?_)
  · replace h := h.1 h1
    refine zR_aload_n d_Ring_remember_26 rfl rfl ?_
    refine zR_getR (j := 0) d_Ring_remember_27 hc.1 cl_Ring rfl (by decide) g_137 ?_
    refine zR_iconst (v := 0) d_Ring_remember_30 (by decide) ?_
    refine zR_iload_n d_Ring_remember_31 rfl rfl ?_
    refine zR_iastore (j := 0) d_Ring_remember_32 hc.2 (vp_in_nI (n := 0) (by decide) (by decide)) (by decide) ?_
    exact zR_return rfl d_Ring_remember_33 h
  · replace h := h.2 h1
    refine zR_aload_n d_Ring_remember_6 rfl rfl ?_
    refine zR_getR (j := 0) d_Ring_remember_7 hc.1 cl_Ring rfl (by decide) g_137 ?_
    refine zR_iload_n d_Ring_remember_10 rfl rfl ?_
    refine zR_aload_n d_Ring_remember_11 rfl rfl ?_
    refine zR_getR (j := 0) d_Ring_remember_12 hc.1 cl_Ring rfl (by decide) g_137 ?_
    refine zR_iload_n d_Ring_remember_15 rfl rfl ?_
    refine zR_iconst (v := 1) d_Ring_remember_16 (by decide) ?_
    refine zR_isub d_Ring_remember_17 ?_
    refine zR_iaload d_Ring_remember_18 hc.2 h.1 rfl ?_
    replace h := h.2
    refine zR_iastore d_Ring_remember_19 hc.2 h.1 rfl ?_
    replace h := h.2
    refine zR_iinc (v := (-1)) d_Ring_remember_20 rfl (by decide) (by decide) ?_
    refine zR_goto (tgt := 2) d_Ring_remember_23 (by decide) ?_
    exact h
theorem w_Ring_isLatest_0 {κ : zK} {d : Nat} {mem : zM} {Q : Option zV → zM → Prop} {c : Nat} {x1 : Int32} (hc : is_Ring c)
    (h : ((¬ (mem (c + 1) 0) = x1 → Q (some (.inl 0)) mem) ∧ ((mem (c + 1) 0) = x1 → Q (some (.inl 1)) mem))) : zR κ d Y_Ring_isLatest 0 [some (.inr c), some (.inl x1)] [] mem Q := by
  refine zR_aload_n d_Ring_isLatest_0 rfl rfl ?_
  refine zR_getR (j := 0) d_Ring_isLatest_1 hc.1 cl_Ring rfl (by decide) g_137 ?_
  refine zR_iconst (v := 0) d_Ring_isLatest_4 (by decide) ?_
  refine zR_iaload (j := 0) d_Ring_isLatest_5 hc.2 (vp_in_nI (n := 0) (by decide) (by decide)) (by decide) ?_
  refine zR_iload_n d_Ring_isLatest_6 rfl rfl ?_
  refine zR_icmp_ne (tgt := 14) d_Ring_isLatest_7 (by decide) (fun h1 => ?_) (fun h1 => ?_)
  · replace h := h.1 h1
    refine zR_iconst (v := 0) d_Ring_isLatest_14 (by decide) ?_
    exact zR_zreturn rfl d_Ring_isLatest_15 (Or.inl rfl) h
  · replace h := h.2 h1
    refine zR_iconst (v := 1) d_Ring_isLatest_10 (by decide) ?_
    refine zR_goto (tgt := 15) d_Ring_isLatest_11 (by decide) ?_
    exact zR_zreturn rfl d_Ring_isLatest_15 (Or.inr rfl) h
theorem w_Ring_distanceOf_0 {κ : zK} {d : Nat} {mem : zM} {Q : Option zV → zM → Prop} {c : Nat} {x1 : Int32} (hc : is_Ring c)
    (h : ((¬ x1 = 4 → ((¬ x1 = 5 → ((x1 < 0 → Q (some (.inl 0)) mem) ∧ (¬ x1 < 0 → ((4 ≤ x1 → Q (some (.inl 0)) mem) ∧ (¬ 4 ≤ x1 → vp_in x1 4 ∧ Q (some (.inl (mem (c + 1) x1.toNatClampNeg))) mem))))) ∧ (x1 = 5 → Q (some (.inl ((mem (c + 1) 0) + 1))) mem))) ∧ (x1 = 4 → Q (some (.inl ((mem (c + 1) 0) - 1))) mem))) : zR κ d Y_Ring_distanceOf 0 [some (.inr c), some (.inl x1)] [] mem Q := by
  refine zR_iload_n d_Ring_distanceOf_0 rfl rfl ?_
  refine zR_iconst (v := 4) d_Ring_distanceOf_1 (by decide) ?_
  refine zR_icmp_ne (tgt := 14) d_Ring_distanceOf_2 (by decide) (fun h1 => ?_) (fun h1 => ?_)
  · replace h := h.1 h1
    refine zR_iload_n d_Ring_distanceOf_14 rfl rfl ?_
    refine zR_iconst (v := 5) d_Ring_distanceOf_15 (by decide) ?_
    refine zR_icmp_ne (tgt := 28) d_Ring_distanceOf_16 (by decide) (fun h1 => ?_) (fun h1 => ?_)
    · replace h := h.1 h1
      refine zR_iload_n d_Ring_distanceOf_28 rfl rfl ?_
      refine zR_if_lt (tgt := 46) d_Ring_distanceOf_29 (by decide) (fun h1 => ?_) (fun h1 => ?_)
      · replace h := h.1 h1
        refine zR_iconst (v := 0) d_Ring_distanceOf_46 (by decide) ?_
        exact zR_ireturn rfl d_Ring_distanceOf_47 h
      · replace h := h.2 h1
        refine zR_iload_n d_Ring_distanceOf_32 rfl rfl ?_
        refine zR_iconst (v := 4) d_Ring_distanceOf_33 (by decide) ?_
        refine zR_icmp_ge (tgt := 46) d_Ring_distanceOf_34 (by decide) (fun h1 => ?_) (fun h1 => ?_)
        · replace h := h.1 h1
          refine zR_iconst (v := 0) d_Ring_distanceOf_46 (by decide) ?_
          exact zR_ireturn rfl d_Ring_distanceOf_47 h
        · replace h := h.2 h1
          refine zR_aload_n d_Ring_distanceOf_37 rfl rfl ?_
          refine zR_getR (j := 0) d_Ring_distanceOf_38 hc.1 cl_Ring rfl (by decide) g_137 ?_
          refine zR_iload_n d_Ring_distanceOf_41 rfl rfl ?_
          refine zR_iaload d_Ring_distanceOf_42 hc.2 h.1 rfl ?_
          replace h := h.2
          refine zR_goto (tgt := 47) d_Ring_distanceOf_43 (by decide) ?_
          exact zR_ireturn rfl d_Ring_distanceOf_47 h
    · replace h := h.2 h1
      refine zR_aload_n d_Ring_distanceOf_19 rfl rfl ?_
      refine zR_getR (j := 0) d_Ring_distanceOf_20 hc.1 cl_Ring rfl (by decide) g_137 ?_
      refine zR_iconst (v := 0) d_Ring_distanceOf_23 (by decide) ?_
      refine zR_iaload (j := 0) d_Ring_distanceOf_24 hc.2 (vp_in_nI (n := 0) (by decide) (by decide)) (by decide) ?_
      refine zR_iconst (v := 1) d_Ring_distanceOf_25 (by decide) ?_
      refine zR_iadd d_Ring_distanceOf_26 ?_
      exact zR_ireturn rfl d_Ring_distanceOf_27 h
  · replace h := h.2 h1
    refine zR_aload_n d_Ring_distanceOf_5 rfl rfl ?_
    refine zR_getR (j := 0) d_Ring_distanceOf_6 hc.1 cl_Ring rfl (by decide) g_137 ?_
    refine zR_iconst (v := 0) d_Ring_distanceOf_9 (by decide) ?_
    refine zR_iaload (j := 0) d_Ring_distanceOf_10 hc.2 (vp_in_nI (n := 0) (by decide) (by decide)) (by decide) ?_
    refine zR_iconst (v := 1) d_Ring_distanceOf_11 (by decide) ?_
    refine zR_isub d_Ring_distanceOf_12 ?_
    exact zR_ireturn rfl d_Ring_distanceOf_13 h
theorem w_Ring_symbolOf_0 {κ : zK} {d : Nat} {mem : zM} {Q : Option zV → zM → Prop} {c : Nat} {x1 : Int32} (hc : is_Ring c)
    (h : zR κ (d + 1) Y_Ring_symbolOf 2 [some (.inr c), some (.inl x1), some (.inl 0)] [] mem Q) : zR κ (d + 1) Y_Ring_symbolOf 0 [some (.inr c), some (.inl x1), none] [] mem Q := by
  refine zR_iconst (v := 0) d_Ring_symbolOf_0 (by decide) ?_
  refine zR_istore_n d_Ring_symbolOf_1 rfl (by decide) ?_
  exact h
theorem w_Ring_symbolOf_2 {κ : zK} {d : Nat} {mem : zM} {Q : Option zV → zM → Prop} {c : Nat} {x1 x2 : Int32} (hc : is_Ring c)
    (h : ((6 ≤ x2 → zR κ d Y_Ring_plainSymbolOf 0 [some (.inl x1), none] [] mem (fun r m1 => ∃ y2 : Int32, r = some (.inl y2) ∧ Q (some (.inl y2)) m1)) ∧ (¬ 6 ≤ x2 → zR κ d Y_Ring_distanceOf 0 [some (.inr c), some (.inl x2)] [] mem (fun r m3 => ∃ y4 : Int32, r = some (.inl y4) ∧ ((¬ y4 = x1 → zR κ (d + 1) Y_Ring_symbolOf 2 [some (.inr c), some (.inl x1), some (.inl (x2 + 1))] [] m3 Q) ∧ (y4 = x1 → Q (some (.inl x2)) m3)))))) : zR κ (d + 1) Y_Ring_symbolOf 2 [some (.inr c), some (.inl x1), some (.inl x2)] [] mem Q := by
  refine zR_iload_n d_Ring_symbolOf_2 rfl rfl ?_
  refine zR_bipush (v := 6) d_Ring_symbolOf_3 (by decide) ?_
  refine zR_icmp_ge (tgt := 25) d_Ring_symbolOf_5 (by decide) (fun h1 => ?_) (fun h1 => ?_)
  · replace h := h.1 h1
    refine zR_iload_n d_Ring_symbolOf_25 rfl rfl ?_
    refine zR_callS (Y' := Y_Ring_plainSymbolOf) (n := 1) (A := [.inl x1]) (S := []) v_Ring_plainSymbolOf g_139 d_Ring_symbolOf_26 rfl (Nat.le_of_ble_eq_true rfl) rfl (zR_cons ?_ h)
    rintro r_ m1 ⟨y2, rfl, h⟩
    show zR κ (d + 1) Y_Ring_symbolOf 29 [some (.inr c), some (.inl x1), some (.inl x2)] [.inl y2] m1 Q
    exact zR_ireturn rfl d_Ring_symbolOf_29 h
  · replace h := h.2 h1
    refine zR_aload_n d_Ring_symbolOf_8 rfl rfl ?_
    refine zR_iload_n d_Ring_symbolOf_9 rfl rfl ?_
    refine zR_callV (Y' := Y_Ring_distanceOf) (n := 1) (A := [.inl x2]) (b := c) (S := []) v_Ring_distanceOf g_140 hc.1 cl_Ring rfl d_Ring_symbolOf_10 rfl (Nat.le_of_ble_eq_true rfl) rfl (zR_cons ?_ h)
    rintro r_ m3 ⟨y4, rfl, h⟩
    show zR κ (d + 1) Y_Ring_symbolOf 13 [some (.inr c), some (.inl x1), some (.inl x2)] [.inl y4] m3 Q
    refine zR_iload_n d_Ring_symbolOf_13 rfl rfl ?_
    refine zR_icmp_ne (tgt := 19) d_Ring_symbolOf_14 (by decide) (fun h1 => ?_) (fun h1 => ?_)
    · replace h := h.1 h1
      refine zR_iinc (v := 1) d_Ring_symbolOf_19 rfl (by decide) (by decide) ?_
      refine zR_goto (tgt := 2) d_Ring_symbolOf_22 (by decide) ?_
      exact h
    · replace h := h.2 h1
      refine zR_iload_n d_Ring_symbolOf_17 rfl rfl ?_
      exact zR_ireturn rfl d_Ring_symbolOf_18 h
theorem w_Ring_plainSymbolOf_0 {κ : zK} {d : Nat} {mem : zM} {Q : Option zV → zM → Prop} {x0 : Int32}
    (h : zR κ d Y_Ring_plainSymbolOf 3 [some (.inl x0), some (.inl 6)] [] mem Q) : zR κ d Y_Ring_plainSymbolOf 0 [some (.inl x0), none] [] mem Q := by
  refine zR_bipush (v := 6) d_Ring_plainSymbolOf_0 (by decide) ?_
  refine zR_istore_n d_Ring_plainSymbolOf_2 rfl (by decide) ?_
  exact h
theorem w_Ring_plainSymbolOf_3 {κ : zK} {d : Nat} {mem : zM} {Q : Option zV → zM → Prop} {x0 x1 : Int32}
    (h : ((14 ≤ (x1 + 1) → Q (some (.inl x1)) mem) ∧ (¬ 14 ≤ (x1 + 1) → vp_in (x1 + 1) 14 ∧ ((x0 < (tv_4.getD (x1 + 1).toNatClampNeg 0) → Q (some (.inl x1)) mem) ∧ (¬ x0 < (tv_4.getD (x1 + 1).toNatClampNeg 0) → zR κ d Y_Ring_plainSymbolOf 3 [some (.inl x0), some (.inl (x1 + 1))] [] mem Q))))) : zR κ d Y_Ring_plainSymbolOf 3 [some (.inl x0), some (.inl x1)] [] mem Q := by
  refine zR_iload_n d_Ring_plainSymbolOf_3 rfl rfl ?_
  refine zR_iconst (v := 1) d_Ring_plainSymbolOf_4 (by decide) ?_
  refine zR_iadd d_Ring_plainSymbolOf_5 ?_
  refine zR_bipush (v := 14) d_Ring_plainSymbolOf_6 (by decide) ?_
  refine zR_icmp_ge (tgt := 28) d_Ring_plainSymbolOf_8 (by decide) (fun h1 => ?_) (fun h1 => ?_)
  · replace h := h.1 h1
    refine zR_iload_n d_Ring_plainSymbolOf_28 rfl rfl ?_
    exact zR_ireturn rfl d_Ring_plainSymbolOf_29 h
  · replace h := h.2 h1
    refine zR_getT (t := 4) d_Ring_plainSymbolOf_11 tb_4 n_141 ?_
    refine zR_iload_n d_Ring_plainSymbolOf_14 rfl rfl ?_
    refine zR_iconst (v := 1) d_Ring_plainSymbolOf_15 (by decide) ?_
    refine zR_iadd d_Ring_plainSymbolOf_16 ?_
    refine zR_tload (t := 4) d_Ring_plainSymbolOf_17 tb_4 h.1 rfl ?_
    replace h := h.2
    refine zR_iload_n d_Ring_plainSymbolOf_18 rfl rfl ?_
    refine zR_icmp_gt (tgt := 28) d_Ring_plainSymbolOf_19 (by decide) (fun h1 => ?_) (fun h1 => ?_)
    · replace h := h.1 h1
      refine zR_iload_n d_Ring_plainSymbolOf_28 rfl rfl ?_
      exact zR_ireturn rfl d_Ring_plainSymbolOf_29 h
    · replace h := h.2 h1
      refine zR_iinc (v := 1) d_Ring_plainSymbolOf_22 rfl (by decide) (by decide) ?_
      refine zR_goto (tgt := 3) d_Ring_plainSymbolOf_25 (by decide) ?_
      exact h
