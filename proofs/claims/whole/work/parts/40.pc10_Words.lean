/-! pieces of RingPacker$Words -/
theorem w_Words_yieldOf_0 {κ : zK} {d : Nat} {mem : zM} {Q : Option zV → zM → Prop} {x0 x1 : Int32}
    (h : ((¬ (x1 >>> (2 : Int32)) = 2 → ((¬ (x1 >>> (2 : Int32)) = 3 → Q (some (.inl x0)) mem) ∧ ((x1 >>> (2 : Int32)) = 3 → Q (some (.inl (x0 - 1))) mem))) ∧ ((x1 >>> (2 : Int32)) = 2 → Q (some (.inl (x0 + 1))) mem))) : zR κ d Y_Words_yieldOf 0 [some (.inl x0), some (.inl x1), none] [] mem Q := by
  refine zR_iload_n d_Words_yieldOf_0 rfl rfl ?_
  refine zR_iconst (v := 2) d_Words_yieldOf_1 (by decide) ?_
  refine zR_ishr (z := 2) d_Words_yieldOf_2 (by decide) ?_
  refine zR_istore_n d_Words_yieldOf_3 rfl (by decide) ?_
  refine zR_iload_n d_Words_yieldOf_4 rfl rfl ?_
  refine zR_iconst (v := 2) d_Words_yieldOf_5 (by decide) ?_
  refine zR_icmp_ne (tgt := 13) d_Words_yieldOf_6 (by decide) (fun h1 => ?_) (fun h1 => ?_)
  · replace h := h.1 h1
    refine zR_iload_n d_Words_yieldOf_13 rfl rfl ?_
    refine zR_iconst (v := 3) d_Words_yieldOf_14 (by decide) ?_
    refine zR_icmp_ne (tgt := 24) d_Words_yieldOf_15 (by decide) (fun h1 => ?_) (fun h1 => ?_)
    · replace h := h.1 h1
      refine zR_iload_n d_Words_yieldOf_24 rfl rfl ?_
      exact zR_ireturn rfl d_Words_yieldOf_25 h
    · replace h := h.2 h1
      refine zR_iload_n d_Words_yieldOf_18 rfl rfl ?_
      refine zR_iconst (v := 1) d_Words_yieldOf_19 (by decide) ?_
      refine zR_isub d_Words_yieldOf_20 ?_
      refine zR_goto (tgt := 25) d_Words_yieldOf_21 (by decide) ?_
      exact zR_ireturn rfl d_Words_yieldOf_25 h
  · replace h := h.2 h1
    refine zR_iload_n d_Words_yieldOf_9 rfl rfl ?_
    refine zR_iconst (v := 1) d_Words_yieldOf_10 (by decide) ?_
    refine zR_iadd d_Words_yieldOf_11 ?_
    exact zR_ireturn rfl d_Words_yieldOf_12 h
theorem w_Words_byteOf_0 {κ : zK} {d : Nat} {mem : zM} {Q : Option zV → zM → Prop} {x0 x1 x2 : Int32}
    (h : ((¬ (x1 >>> (2 : Int32)) = 3 → zR κ (d + 1) Y_Words_byteOf 16 [some (.inl x0), some (.inl x1), some (.inl x2), some (.inl (x1 >>> (2 : Int32))), none, none, none] [.inl x2] mem Q) ∧ ((x1 >>> (2 : Int32)) = 3 → zR κ (d + 1) Y_Words_byteOf 16 [some (.inl x0), some (.inl x1), some (.inl x2), some (.inl (x1 >>> (2 : Int32))), none, none, none] [.inl (x2 + 1)] mem Q))) : zR κ (d + 1) Y_Words_byteOf 0 [some (.inl x0), some (.inl x1), some (.inl x2), none, none, none, none] [] mem Q := by
  refine zR_iload_n d_Words_byteOf_0 rfl rfl ?_
  refine zR_iconst (v := 2) d_Words_byteOf_1 (by decide) ?_
  refine zR_ishr (z := 2) d_Words_byteOf_2 (by decide) ?_
  refine zR_istore_n d_Words_byteOf_3 rfl (by decide) ?_
  refine zR_iload_n d_Words_byteOf_4 rfl rfl ?_
  refine zR_iconst (v := 3) d_Words_byteOf_5 (by decide) ?_
  refine zR_icmp_ne (tgt := 15) d_Words_byteOf_6 (by decide) (fun h1 => ?_) (fun h1 => ?_)
  · replace h := h.1 h1
    refine zR_iload_n d_Words_byteOf_15 rfl rfl ?_
    exact h
  · replace h := h.2 h1
    refine zR_iload_n d_Words_byteOf_9 rfl rfl ?_
    refine zR_iconst (v := 1) d_Words_byteOf_10 (by decide) ?_
    refine zR_iadd d_Words_byteOf_11 ?_
    refine zR_goto (tgt := 16) d_Words_byteOf_12 (by decide) ?_
    exact h
theorem w_Words_standsIn_0 {κ : zK} {d : Nat} {mem : zM} {Q : Option zV → zM → Prop} {c : Nat} {x1 x2 x3 : Int32} (hc : is_Text c)
    (h : zR κ d Y_Words_yieldOf 0 [some (.inl x2), some (.inl x3), none] [] mem (fun r m1 => ∃ y2 : Int32, r = some (.inl y2) ∧ zR κ (d + 1) Y_Words_standsIn 10 [some (.inr c), some (.inl x1), some (.inl x2), some (.inl x3), some (.inl y2), some (.inl 0)] [] m1 Q)) : zR κ (d + 1) Y_Words_standsIn 0 [some (.inr c), some (.inl x1), some (.inl x2), some (.inl x3), none, none] [] mem Q := by
  refine zR_iload_n d_Words_standsIn_0 rfl rfl ?_
  refine zR_iload_n d_Words_standsIn_1 rfl rfl ?_
  refine zR_callS (Y' := Y_Words_yieldOf) (n := 2) (A := [.inl x2, .inl x3]) (S := []) v_Words_yieldOf g_188 d_Words_standsIn_2 rfl (Nat.le_of_ble_eq_true rfl) rfl (zR_cons ?_ h)
  rintro r_ m1 ⟨y2, rfl, h⟩
  show zR κ (d + 1) Y_Words_standsIn 5 [some (.inr c), some (.inl x1), some (.inl x2), some (.inl x3), none, none] [.inl y2] m1 Q
  refine zR_istore d_Words_standsIn_5 (by decide) ?_
  refine zR_iconst (v := 0) d_Words_standsIn_7 (by decide) ?_
  refine zR_istore d_Words_standsIn_8 (by decide) ?_
  exact h
theorem w_Words_standsIn_10 {κ : zK} {d : Nat} {mem : zM} {Q : Option zV → zM → Prop} {c : Nat} {x1 x2 x3 x4 x5 : Int32} (hc : is_Text c)
    (h : ((x4 ≤ x5 → Q (some (.inl 1)) mem) ∧ (¬ x4 ≤ x5 → zR κ d Y_Text_get 0 [some (.inr c), some (.inl (x1 + x5))] [] mem (fun r m1 => ∃ y2 : Int32, r = some (.inl y2) ∧ zR κ d Y_Words_byteOf 0 [some (.inl x2), some (.inl x3), some (.inl x5), none, none, none, none] [] m1 (fun r m3 => ∃ y4 : Int32, r = some (.inl y4) ∧ ((y2 = y4 → zR κ (d + 1) Y_Words_standsIn 10 [some (.inr c), some (.inl x1), some (.inl x2), some (.inl x3), some (.inl x4), some (.inl (x5 + 1))] [] m3 Q) ∧ (¬ y2 = y4 → Q (some (.inl 0)) m3))))))) : zR κ (d + 1) Y_Words_standsIn 10 [some (.inr c), some (.inl x1), some (.inl x2), some (.inl x3), some (.inl x4), some (.inl x5)] [] mem Q := by
  refine zR_iload d_Words_standsIn_10 rfl ?_
  refine zR_iload d_Words_standsIn_12 rfl ?_
  refine zR_icmp_ge (tgt := 43) d_Words_standsIn_14 (by decide) (fun h1 => ?_) (fun h1 => ?_)
  · replace h := h.1 h1
    refine zR_iconst (v := 1) d_Words_standsIn_43 (by decide) ?_
    exact zR_zreturn rfl d_Words_standsIn_44 (Or.inr rfl) h
  · replace h := h.2 h1
    refine zR_aload_n d_Words_standsIn_17 rfl rfl ?_
    refine zR_iload_n d_Words_standsIn_18 rfl rfl ?_
    refine zR_iload d_Words_standsIn_19 rfl ?_
    refine zR_iadd d_Words_standsIn_21 ?_
    refine zR_callV (Y' := Y_Text_get) (n := 1) (A := [.inl (x1 + x5)]) (b := c) (S := []) v_Text_get g_189 hc.1 cl_Text rfl d_Words_standsIn_22 rfl (Nat.le_of_ble_eq_true rfl) rfl (zR_cons ?_ h)
    rintro r_ m1 ⟨y2, rfl, h⟩
    show zR κ (d + 1) Y_Words_standsIn 25 [some (.inr c), some (.inl x1), some (.inl x2), some (.inl x3), some (.inl x4), some (.inl x5)] [.inl y2] m1 Q
    refine zR_iload_n d_Words_standsIn_25 rfl rfl ?_
    refine zR_iload_n d_Words_standsIn_26 rfl rfl ?_
    refine zR_iload d_Words_standsIn_27 rfl ?_
    refine zR_callS (Y' := Y_Words_byteOf) (n := 3) (A := [.inl x2, .inl x3, .inl x5]) (S := [.inl y2]) v_Words_byteOf g_190 d_Words_standsIn_29 rfl (Nat.le_of_ble_eq_true rfl) rfl (zR_cons ?_ h)
    rintro r_ m3 ⟨y4, rfl, h⟩
    show zR κ (d + 1) Y_Words_standsIn 32 [some (.inr c), some (.inl x1), some (.inl x2), some (.inl x3), some (.inl x4), some (.inl x5)] [.inl y4, .inl y2] m3 Q
    refine zR_icmp_eq (tgt := 37) d_Words_standsIn_32 (by decide) (fun h1 => ?_) (fun h1 => ?_)
    · replace h := h.1 h1
      refine zR_iinc (v := 1) d_Words_standsIn_37 rfl (by decide) (by decide) ?_
      refine zR_goto (tgt := 10) d_Words_standsIn_40 (by decide) ?_
      exact h
    · replace h := h.2 h1
      refine zR_iconst (v := 0) d_Words_standsIn_35 (by decide) ?_
      exact zR_zreturn rfl d_Words_standsIn_36 (Or.inl rfl) h
