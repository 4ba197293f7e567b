/-! pieces of RingPacker$Code -/
theorem w_Code_readDescription_0 {κ : zK} {d : Nat} {mem : zM} {Q : Option zV → zM → Prop} {c cn : Nat} (hc : is_Code c cn)
    (h : zR κ d Y_Code_forgetListed 0 [some (.inr c), none] [] mem (fun r m1 => r = none ∧ zR κ d Y_BitStream_take 0 [some (.inr 3), some (.inl 1), none, none] [] m1 (fun r m2 => ∃ y3 : Int32, r = some (.inl y3) ∧ ((¬ y3 = 1 → zR κ (d + 1) Y_Code_readDescription 18 [some (.inr c), some (.inr 3), none, none] [.inl 0] m2 Q) ∧ (y3 = 1 → zR κ (d + 1) Y_Code_readDescription 18 [some (.inr c), some (.inr 3), none, none] [.inl 1] m2 Q))))) : zR κ (d + 1) Y_Code_readDescription 0 [some (.inr c), some (.inr 3), none, none] [] mem Q := by
  refine zR_aload_n d_Code_readDescription_0 rfl rfl ?_
  refine zR_callV (Y' := Y_Code_forgetListed) (n := 0) (A := []) (b := c) (S := []) v_Code_forgetListed g_10 hc.1 cl_Code rfl d_Code_readDescription_1 rfl (Nat.le_of_ble_eq_true rfl) rfl (zR_cons ?_ h)
  rintro r_ m1 ⟨rfl, h⟩
  show zR κ (d + 1) Y_Code_readDescription 4 [some (.inr c), some (.inr 3), none, none] [] m1 Q
  refine zR_aload_n d_Code_readDescription_4 rfl rfl ?_
  refine zR_iconst (v := 1) d_Code_readDescription_5 (by decide) ?_
  refine zR_callV (Y' := Y_BitStream_take) (n := 1) (A := [.inl 1]) (b := 3) (S := []) v_BitStream_take g_11 sh_3 cl_BitStream rfl d_Code_readDescription_6 rfl (Nat.le_of_ble_eq_true rfl) rfl (zR_cons ?_ h)
  rintro r_ m2 ⟨y3, rfl, h⟩
  show zR κ (d + 1) Y_Code_readDescription 9 [some (.inr c), some (.inr 3), none, none] [.inl y3] m2 Q
  refine zR_iconst (v := 1) d_Code_readDescription_9 (by decide) ?_
  refine zR_icmp_ne (tgt := 17) d_Code_readDescription_10 (by decide) (fun h1 => ?_) (fun h1 => ?_)
  · replace h := h.1 h1
    refine zR_iconst (v := 0) d_Code_readDescription_17 (by decide) ?_
    exact h
  · replace h := h.2 h1
    refine zR_iconst (v := 1) d_Code_readDescription_13 (by decide) ?_
    refine zR_goto (tgt := 18) d_Code_readDescription_14 (by decide) ?_
    exact h
theorem w_Code_readDescription_18 {κ : zK} {d : Nat} {mem : zM} {Q : Option zV → zM → Prop} {c cn : Nat} {s0 : Int32} (hc : is_Code c cn)
    (h : ((s0 = 0 → zR κ d Y_Code_readBitNumbers 0 [some (.inr c), some (.inr 3), none, none, none] [] mem (fun r m1 => ∃ y2 : Int32, r = some (.inl y2) ∧ zR κ (d + 1) Y_Code_readDescription 36 [some (.inr c), some (.inr 3), some (.inl s0), none] [.inl y2] m1 Q)) ∧ (¬ s0 = 0 → zR κ d Y_Code_readSimple 0 [some (.inr c), some (.inr 3), none, none, none] [] mem (fun r m3 => ∃ y4 : Int32, r = some (.inl y4) ∧ zR κ (d + 1) Y_Code_readDescription 36 [some (.inr c), some (.inr 3), some (.inl s0), none] [.inl y4] m3 Q)))) : zR κ (d + 1) Y_Code_readDescription 18 [some (.inr c), some (.inr 3), none, none] [.inl s0] mem Q := by
  refine zR_istore_n d_Code_readDescription_18 rfl (by decide) ?_
  refine zR_iload_n d_Code_readDescription_19 rfl rfl ?_
  refine zR_if_eq (tgt := 31) d_Code_readDescription_20 (by decide) (fun h1 => ?_) (fun h1 => ?_)
  · replace h := h.1 h1
    refine zR_aload_n d_Code_readDescription_31 rfl rfl ?_
    refine zR_aload_n d_Code_readDescription_32 rfl rfl ?_
    refine zR_callV (Y' := Y_Code_readBitNumbers) (n := 1) (A := [.inr 3]) (b := c) (S := []) v_Code_readBitNumbers g_12 hc.1 cl_Code rfl d_Code_readDescription_33 rfl (Nat.le_of_ble_eq_true rfl) rfl (zR_cons ?_ h)
    rintro r_ m1 ⟨y2, rfl, h⟩
    show zR κ (d + 1) Y_Code_readDescription 36 [some (.inr c), some (.inr 3), some (.inl s0), none] [.inl y2] m1 Q
    exact h
  · replace h := h.2 h1
    refine zR_aload_n d_Code_readDescription_23 rfl rfl ?_
    refine zR_aload_n d_Code_readDescription_24 rfl rfl ?_
    refine zR_callV (Y' := Y_Code_readSimple) (n := 1) (A := [.inr 3]) (b := c) (S := []) v_Code_readSimple g_13 hc.1 cl_Code rfl d_Code_readDescription_25 rfl (Nat.le_of_ble_eq_true rfl) rfl (zR_cons ?_ h)
    rintro r_ m3 ⟨y4, rfl, h⟩
    show zR κ (d + 1) Y_Code_readDescription 28 [some (.inr c), some (.inr 3), some (.inl s0), none] [.inl y4] m3 Q
    refine zR_goto (tgt := 36) d_Code_readDescription_28 (by decide) ?_
    exact h
theorem w_Code_readDescription_36 {κ : zK} {d : Nat} {mem : zM} {Q : Option zV → zM → Prop} {c cn : Nat} {x2 s0 : Int32} (hc : is_Code c cn)
    (h : ((s0 = 0 → Q (some (.inl 0)) mem) ∧ (¬ s0 = 0 → (((mem 3 3) = 0 → zR κ d Y_Code_sortListed 0 [some (.inr c), none, none, none, none] [] mem (fun r m1 => r = none ∧ zR κ d Y_Code_giveCodeWords 0 [some (.inr c), none, none] [] m1 (fun r m2 => r = none ∧ Q (some (.inl 1)) m2))) ∧ (¬ (mem 3 3) = 0 → Q (some (.inl 0)) mem))))) : zR κ (d + 1) Y_Code_readDescription 36 [some (.inr c), some (.inr 3), some (.inl x2), none] [.inl s0] mem Q := by
  refine zR_istore_n d_Code_readDescription_36 rfl (by decide) ?_
  refine zR_iload_n d_Code_readDescription_37 rfl rfl ?_
  refine zR_if_eq (tgt := 48) d_Code_readDescription_38 (by decide) (fun h1 => ?_) (fun h1 => ?_)
  · replace h := h.1 h1
    refine zR_iconst (v := 0) d_Code_readDescription_48 (by decide) ?_
    exact zR_zreturn rfl d_Code_readDescription_49 (Or.inl rfl) h
  · replace h := h.2 h1
    refine zR_aload_n d_Code_readDescription_41 rfl rfl ?_
    refine zR_getIN (j := 3) d_Code_readDescription_42 sh_3 cl_BitStream rfl (by decide) n_14 ?_
    refine zR_if_eq (tgt := 50) d_Code_readDescription_45 (by decide) (fun h1 => ?_) (fun h1 => ?_)
    · replace h := h.1 h1
      refine zR_aload_n d_Code_readDescription_50 rfl rfl ?_
      refine zR_callV (Y' := Y_Code_sortListed) (n := 0) (A := []) (b := c) (S := []) v_Code_sortListed g_15 hc.1 cl_Code rfl d_Code_readDescription_51 rfl (Nat.le_of_ble_eq_true rfl) rfl (zR_cons ?_ h)
      rintro r_ m1 ⟨rfl, h⟩
      show zR κ (d + 1) Y_Code_readDescription 54 [some (.inr c), some (.inr 3), some (.inl x2), some (.inl s0)] [] m1 Q
      refine zR_aload_n d_Code_readDescription_54 rfl rfl ?_
      refine zR_callV (Y' := Y_Code_giveCodeWords) (n := 0) (A := []) (b := c) (S := []) v_Code_giveCodeWords g_16 hc.1 cl_Code rfl d_Code_readDescription_55 rfl (Nat.le_of_ble_eq_true rfl) rfl (zR_cons ?_ h)
      rintro r_ m2 ⟨rfl, h⟩
      show zR κ (d + 1) Y_Code_readDescription 58 [some (.inr c), some (.inr 3), some (.inl x2), some (.inl s0)] [] m2 Q
      refine zR_iconst (v := 1) d_Code_readDescription_58 (by decide) ?_
      exact zR_zreturn rfl d_Code_readDescription_59 (Or.inr rfl) h
    · replace h := h.2 h1
      refine zR_iconst (v := 0) d_Code_readDescription_48 (by decide) ?_
      exact zR_zreturn rfl d_Code_readDescription_49 (Or.inl rfl) h
theorem w_Code_readSimple_0 {κ : zK} {d : Nat} {mem : zM} {Q : Option zV → zM → Prop} {c cn : Nat} (hc : is_Code c cn)
    (h : zR κ d Y_BitStream_take 0 [some (.inr 3), some (.inl 2), none, none] [] mem (fun r m1 => ∃ y2 : Int32, r = some (.inl y2) ∧ zR κ (d + 1) Y_Code_readSimple 10 [some (.inr c), some (.inr 3), some (.inl (y2 + 1)), some (.inl 0), none] [] m1 Q)) : zR κ (d + 1) Y_Code_readSimple 0 [some (.inr c), some (.inr 3), none, none, none] [] mem Q := by
  refine zR_aload_n d_Code_readSimple_0 rfl rfl ?_
  refine zR_iconst (v := 2) d_Code_readSimple_1 (by decide) ?_
  refine zR_callV (Y' := Y_BitStream_take) (n := 1) (A := [.inl 2]) (b := 3) (S := []) v_BitStream_take g_11 sh_3 cl_BitStream rfl d_Code_readSimple_2 rfl (Nat.le_of_ble_eq_true rfl) rfl (zR_cons ?_ h)
  rintro r_ m1 ⟨y2, rfl, h⟩
  show zR κ (d + 1) Y_Code_readSimple 5 [some (.inr c), some (.inr 3), none, none, none] [.inl y2] m1 Q
  refine zR_iconst (v := 1) d_Code_readSimple_5 (by decide) ?_
  refine zR_iadd d_Code_readSimple_6 ?_
  refine zR_istore_n d_Code_readSimple_7 rfl (by decide) ?_
  refine zR_iconst (v := 0) d_Code_readSimple_8 (by decide) ?_
  refine zR_istore_n d_Code_readSimple_9 rfl (by decide) ?_
  exact h
theorem w_Code_readSimple_10 {κ : zK} {d : Nat} {mem : zM} {Q : Option zV → zM → Prop} {c cn : Nat} {x2 x3 : Int32} (hc : is_Code c cn)
    (h : ((x2 ≤ x3 → Q (some (.inl 1)) mem) ∧ (¬ x2 ≤ x3 → zR κ d Y_BitStream_take 0 [some (.inr 3), some (.inl (mem c 1)), none, none] [] mem (fun r m1 => ∃ y2 : Int32, r = some (.inl y2) ∧ (((m1 c 0) ≤ y2 → Q (some (.inl 0)) m1) ∧ (¬ (m1 c 0) ≤ y2 → zR κ d Y_Code_isListed 0 [some (.inr c), some (.inl y2), none] [] m1 (fun r m3 => ∃ y4 : Int32, r = some (.inl y4) ∧ ((y4 = 0 → ((¬ x3 = 0 → zR κ (d + 1) Y_Code_readSimple 58 [some (.inr c), some (.inr 3), some (.inl x2), some (.inl x3), some (.inl y2)] [.inl 0, .inl x2, .inl y2, .inr c] m3 Q) ∧ (x3 = 0 → zR κ (d + 1) Y_Code_readSimple 58 [some (.inr c), some (.inr 3), some (.inl x2), some (.inl x3), some (.inl y2)] [.inl 1, .inl x2, .inl y2, .inr c] m3 Q))) ∧ (¬ y4 = 0 → Q (some (.inl 0)) m3))))))))) : zR κ (d + 1) Y_Code_readSimple 10 [some (.inr c), some (.inr 3), some (.inl x2), some (.inl x3), none] [] mem Q := by
  refine zR_iload_n d_Code_readSimple_10 rfl rfl ?_
  refine zR_iload_n d_Code_readSimple_11 rfl rfl ?_
  refine zR_icmp_ge (tgt := 70) d_Code_readSimple_12 (by decide) (fun h1 => ?_) (fun h1 => ?_)
  · replace h := h.1 h1
    refine zR_iconst (v := 1) d_Code_readSimple_70 (by decide) ?_
    exact zR_zreturn rfl d_Code_readSimple_71 (Or.inr rfl) h
  · replace h := h.2 h1
    refine zR_aload_n d_Code_readSimple_15 rfl rfl ?_
    refine zR_aload_n d_Code_readSimple_16 rfl rfl ?_
    refine zR_getI (j := 1) d_Code_readSimple_17 hc.1 cl_Code rfl (by decide) g_17 ?_
    refine zR_callV (Y' := Y_BitStream_take) (n := 1) (A := [.inl (mem c 1)]) (b := 3) (S := []) v_BitStream_take g_11 sh_3 cl_BitStream rfl d_Code_readSimple_20 rfl (Nat.le_of_ble_eq_true rfl) rfl (zR_cons ?_ h)
    rintro r_ m1 ⟨y2, rfl, h⟩
    show zR κ (d + 1) Y_Code_readSimple 23 [some (.inr c), some (.inr 3), some (.inl x2), some (.inl x3), none] [.inl y2] m1 Q
    refine zR_istore d_Code_readSimple_23 (by decide) ?_
    refine zR_iload d_Code_readSimple_25 rfl ?_
    refine zR_aload_n d_Code_readSimple_27 rfl rfl ?_
    refine zR_getI (j := 0) d_Code_readSimple_28 hc.1 cl_Code rfl (by decide) g_18 ?_
    refine zR_icmp_ge (tgt := 43) d_Code_readSimple_31 (by decide) (fun h1 => ?_) (fun h1 => ?_)
    · replace h := h.1 h1
      refine zR_iconst (v := 0) d_Code_readSimple_43 (by decide) ?_
      exact zR_zreturn rfl d_Code_readSimple_44 (Or.inl rfl) h
    · replace h := h.2 h1
      refine zR_aload_n d_Code_readSimple_34 rfl rfl ?_
      refine zR_iload d_Code_readSimple_35 rfl ?_
      refine zR_callV (Y' := Y_Code_isListed) (n := 1) (A := [.inl y2]) (b := c) (S := []) v_Code_isListed g_19 hc.1 cl_Code rfl d_Code_readSimple_37 rfl (Nat.le_of_ble_eq_true rfl) rfl (zR_cons ?_ h)
      rintro r_ m3 ⟨y4, rfl, h⟩
      show zR κ (d + 1) Y_Code_readSimple 40 [some (.inr c), some (.inr 3), some (.inl x2), some (.inl x3), some (.inl y2)] [.inl y4] m3 Q
      refine zR_if_eq (tgt := 45) d_Code_readSimple_40 (by decide) (fun h1 => ?_) (fun h1 => ?_)
      · replace h := h.1 h1
        refine zR_aload_n d_Code_readSimple_45 rfl rfl ?_
        refine zR_iload d_Code_readSimple_46 rfl ?_
        refine zR_iload_n d_Code_readSimple_48 rfl rfl ?_
        refine zR_iload_n d_Code_readSimple_49 rfl rfl ?_
        refine zR_if_ne (tgt := 57) d_Code_readSimple_50 (by decide) (fun h1 => ?_) (fun h1 => ?_)
        · replace h := h.1 h1
          refine zR_iconst (v := 0) d_Code_readSimple_57 (by decide) ?_
          exact h
        · replace h := h.2 h1
          refine zR_iconst (v := 1) d_Code_readSimple_53 (by decide) ?_
          refine zR_goto (tgt := 58) d_Code_readSimple_54 (by decide) ?_
          exact h
      · replace h := h.2 h1
        refine zR_iconst (v := 0) d_Code_readSimple_43 (by decide) ?_
        exact zR_zreturn rfl d_Code_readSimple_44 (Or.inl rfl) h
theorem w_Code_readSimple_58 {κ : zK} {d : Nat} {mem : zM} {Q : Option zV → zM → Prop} {c cn : Nat} {x2 x3 x4 s1 s2 s3 : Int32} (hc : is_Code c cn)
    (h : zR κ d Y_Code_simpleBits 0 [some (.inl s2), some (.inl s3)] [] mem (fun r m1 => ∃ y2 : Int32, r = some (.inl y2) ∧ zR κ d Y_Code_list 0 [some (.inr c), some (.inl s1), some (.inl y2)] [] m1 (fun r m3 => r = none ∧ zR κ (d + 1) Y_Code_readSimple 10 [some (.inr c), some (.inr 3), some (.inl x2), some (.inl (x3 + 1)), none] [] m3 Q))) : zR κ (d + 1) Y_Code_readSimple 58 [some (.inr c), some (.inr 3), some (.inl x2), some (.inl x3), some (.inl x4)] [.inl s3, .inl s2, .inl s1, .inr c] mem Q := by
  refine zR_callS (Y' := Y_Code_simpleBits) (n := 2) (A := [.inl s2, .inl s3]) (S := [.inl s1, .inr c]) v_Code_simpleBits g_20 d_Code_readSimple_58 rfl (Nat.le_of_ble_eq_true rfl) rfl (zR_cons ?_ h)
  rintro r_ m1 ⟨y2, rfl, h⟩
  show zR κ (d + 1) Y_Code_readSimple 61 [some (.inr c), some (.inr 3), some (.inl x2), some (.inl x3), some (.inl x4)] [.inl y2, .inl s1, .inr c] m1 Q
  refine zR_callV (Y' := Y_Code_list) (n := 2) (A := [.inl s1, .inl y2]) (b := c) (S := []) v_Code_list g_21 hc.1 cl_Code rfl d_Code_readSimple_61 rfl (Nat.le_of_ble_eq_true rfl) rfl (zR_cons ?_ h)
  rintro r_ m3 ⟨rfl, h⟩
  show zR κ (d + 1) Y_Code_readSimple 64 [some (.inr c), some (.inr 3), some (.inl x2), some (.inl x3), some (.inl x4)] [] m3 Q
  refine zR_iinc (v := 1) d_Code_readSimple_64 rfl (by decide) (by decide) ?_
  refine zR_goto (tgt := 10) d_Code_readSimple_67 (by decide) ?_
  refine zR_drop 4 ?_
  exact h
theorem w_Code_readBitNumbers_0 {κ : zK} {d : Nat} {mem : zM} {Q : Option zV → zM → Prop} {c cn : Nat} (hc : is_Code c cn)
    (h : zR κ (d + 1) Y_Code_readBitNumbers 5 [some (.inr c), some (.inr 3), some (.inl 64), some (.inl 0), none] [] mem Q) : zR κ (d + 1) Y_Code_readBitNumbers 0 [some (.inr c), some (.inr 3), none, none, none] [] mem Q := by
  refine zR_bipush (v := 64) d_Code_readBitNumbers_0 (by decide) ?_
  refine zR_istore_n d_Code_readBitNumbers_2 rfl (by decide) ?_
  refine zR_iconst (v := 0) d_Code_readBitNumbers_3 (by decide) ?_
  refine zR_istore_n d_Code_readBitNumbers_4 rfl (by decide) ?_
  exact h
theorem w_Code_readBitNumbers_5 {κ : zK} {d : Nat} {mem : zM} {Q : Option zV → zM → Prop} {c cn : Nat} {x2 x3 : Int32} (hc : is_Code c cn)
    (h : (((mem c 0) ≤ x3 → ((¬ x2 = 0 → Q (some (.inl 0)) mem) ∧ (x2 = 0 → Q (some (.inl 1)) mem))) ∧ (¬ (mem c 0) ≤ x3 → ((x2 ≤ 0 → ((¬ x2 = 0 → Q (some (.inl 0)) mem) ∧ (x2 = 0 → Q (some (.inl 1)) mem))) ∧ (¬ x2 ≤ 0 → zR κ d Y_BitStream_take 0 [some (.inr 3), some (.inl 3), none, none] [] mem (fun r m1 => ∃ y2 : Int32, r = some (.inl y2) ∧ ((¬ y2 = 7 → ((y2 ≤ 0 → zR κ (d + 1) Y_Code_readBitNumbers 5 [some (.inr c), some (.inr 3), some (.inl x2), some (.inl (x3 + 1)), none] [] m1 Q) ∧ (¬ y2 ≤ 0 → ((0 ≤ (x2 - ((64 : Int32) >>> (y2 &&& 31))) → zR κ d Y_Code_list 0 [some (.inr c), some (.inl x3), some (.inl y2)] [] m1 (fun r m3 => r = none ∧ zR κ (d + 1) Y_Code_readBitNumbers 5 [some (.inr c), some (.inr 3), some (.inl (x2 - ((64 : Int32) >>> (y2 &&& 31)))), some (.inl (x3 + 1)), none] [] m3 Q)) ∧ (¬ 0 ≤ (x2 - ((64 : Int32) >>> (y2 &&& 31))) → Q (some (.inl 0)) m1))))) ∧ (y2 = 7 → zR κ d Y_BitStream_take 0 [some (.inr 3), some (.inl 4), none, none] [] m1 (fun r m4 => ∃ y5 : Int32, r = some (.inl y5) ∧ zR κ (d + 1) Y_Code_readBitNumbers 5 [some (.inr c), some (.inr 3), some (.inl x2), some (.inl (x3 + (y5 + 3))), none] [] m4 Q))))))))) : zR κ (d + 1) Y_Code_readBitNumbers 5 [some (.inr c), some (.inr 3), some (.inl x2), some (.inl x3), none] [] mem Q := by
  refine zR_iload_n d_Code_readBitNumbers_5 rfl rfl ?_
  refine zR_aload_n d_Code_readBitNumbers_6 rfl rfl ?_
  refine zR_getI (j := 0) d_Code_readBitNumbers_7 hc.1 cl_Code rfl (by decide) g_18 ?_
  refine zR_icmp_ge (tgt := 76) d_Code_readBitNumbers_10 (by decide) (fun h1 => ?_) (fun h1 => ?_)
  · replace h := h.1 h1
    refine zR_iload_n d_Code_readBitNumbers_76 rfl rfl ?_
    refine zR_if_ne (tgt := 84) d_Code_readBitNumbers_77 (by decide) (fun h1 => ?_) (fun h1 => ?_)
    · replace h := h.1 h1
      refine zR_iconst (v := 0) d_Code_readBitNumbers_84 (by decide) ?_
      exact zR_zreturn rfl d_Code_readBitNumbers_85 (Or.inl rfl) h
    · replace h := h.2 h1
      refine zR_iconst (v := 1) d_Code_readBitNumbers_80 (by decide) ?_
      refine zR_goto (tgt := 85) d_Code_readBitNumbers_81 (by decide) ?_
      exact zR_zreturn rfl d_Code_readBitNumbers_85 (Or.inr rfl) h
  · replace h := h.2 h1
    refine zR_iload_n d_Code_readBitNumbers_13 rfl rfl ?_
    refine zR_if_le (tgt := 76) d_Code_readBitNumbers_14 (by decide) (fun h1 => ?_) (fun h1 => ?_)
    · replace h := h.1 h1
      refine zR_iload_n d_Code_readBitNumbers_76 rfl rfl ?_
      refine zR_if_ne (tgt := 84) d_Code_readBitNumbers_77 (by decide) (fun h1 => ?_) (fun h1 => ?_)
      · replace h := h.1 h1
        refine zR_iconst (v := 0) d_Code_readBitNumbers_84 (by decide) ?_
        exact zR_zreturn rfl d_Code_readBitNumbers_85 (Or.inl rfl) h
      · replace h := h.2 h1
        refine zR_iconst (v := 1) d_Code_readBitNumbers_80 (by decide) ?_
        refine zR_goto (tgt := 85) d_Code_readBitNumbers_81 (by decide) ?_
        exact zR_zreturn rfl d_Code_readBitNumbers_85 (Or.inr rfl) h
    · replace h := h.2 h1
      refine zR_aload_n d_Code_readBitNumbers_17 rfl rfl ?_
      refine zR_iconst (v := 3) d_Code_readBitNumbers_18 (by decide) ?_
      refine zR_callV (Y' := Y_BitStream_take) (n := 1) (A := [.inl 3]) (b := 3) (S := []) v_BitStream_take g_11 sh_3 cl_BitStream rfl d_Code_readBitNumbers_19 rfl (Nat.le_of_ble_eq_true rfl) rfl (zR_cons ?_ h)
      rintro r_ m1 ⟨y2, rfl, h⟩
      show zR κ (d + 1) Y_Code_readBitNumbers 22 [some (.inr c), some (.inr 3), some (.inl x2), some (.inl x3), none] [.inl y2] m1 Q
      refine zR_istore d_Code_readBitNumbers_22 (by decide) ?_
      refine zR_iload d_Code_readBitNumbers_24 rfl ?_
      refine zR_bipush (v := 7) d_Code_readBitNumbers_26 (by decide) ?_
      refine zR_icmp_ne (tgt := 44) d_Code_readBitNumbers_28 (by decide) (fun h1 => ?_) (fun h1 => ?_)
      · replace h := h.1 h1
        refine zR_iload d_Code_readBitNumbers_44 rfl ?_
        refine zR_if_le (tgt := 70) d_Code_readBitNumbers_46 (by decide) (fun h1 => ?_) (fun h1 => ?_)
        · replace h := h.1 h1
          refine zR_iinc (v := 1) d_Code_readBitNumbers_70 rfl (by decide) (by decide) ?_
          refine zR_goto (tgt := 5) d_Code_readBitNumbers_73 (by decide) ?_
          refine zR_drop 4 ?_
          exact h
        · replace h := h.2 h1
          refine zR_iload_n d_Code_readBitNumbers_49 rfl rfl ?_
          refine zR_bipush (v := 64) d_Code_readBitNumbers_50 (by decide) ?_
          refine zR_iload d_Code_readBitNumbers_52 rfl ?_
          refine zR_ishr d_Code_readBitNumbers_54 rfl ?_
          refine zR_isub d_Code_readBitNumbers_55 ?_
          refine zR_istore_n d_Code_readBitNumbers_56 rfl (by decide) ?_
          refine zR_iload_n d_Code_readBitNumbers_57 rfl rfl ?_
          refine zR_if_ge (tgt := 63) d_Code_readBitNumbers_58 (by decide) (fun h1 => ?_) (fun h1 => ?_)
          · replace h := h.1 h1
            refine zR_aload_n d_Code_readBitNumbers_63 rfl rfl ?_
            refine zR_iload_n d_Code_readBitNumbers_64 rfl rfl ?_
            refine zR_iload d_Code_readBitNumbers_65 rfl ?_
            refine zR_callV (Y' := Y_Code_list) (n := 2) (A := [.inl x3, .inl y2]) (b := c) (S := []) v_Code_list g_21 hc.1 cl_Code rfl d_Code_readBitNumbers_67 rfl (Nat.le_of_ble_eq_true rfl) rfl (zR_cons ?_ h)
            rintro r_ m3 ⟨rfl, h⟩
            show zR κ (d + 1) Y_Code_readBitNumbers 70 [some (.inr c), some (.inr 3), some (.inl (x2 - ((64 : Int32) >>> (y2 &&& 31)))), some (.inl x3), some (.inl y2)] [] m3 Q
            refine zR_iinc (v := 1) d_Code_readBitNumbers_70 rfl (by decide) (by decide) ?_
            refine zR_goto (tgt := 5) d_Code_readBitNumbers_73 (by decide) ?_
            refine zR_drop 4 ?_
            exact h
          · replace h := h.2 h1
            refine zR_iconst (v := 0) d_Code_readBitNumbers_61 (by decide) ?_
            exact zR_zreturn rfl d_Code_readBitNumbers_62 (Or.inl rfl) h
      · replace h := h.2 h1
        refine zR_iload_n d_Code_readBitNumbers_31 rfl rfl ?_
        refine zR_aload_n d_Code_readBitNumbers_32 rfl rfl ?_
        refine zR_iconst (v := 4) d_Code_readBitNumbers_33 (by decide) ?_
        refine zR_callV (Y' := Y_BitStream_take) (n := 1) (A := [.inl 4]) (b := 3) (S := [.inl x3]) v_BitStream_take g_11 sh_3 cl_BitStream rfl d_Code_readBitNumbers_34 rfl (Nat.le_of_ble_eq_true rfl) rfl (zR_cons ?_ h)
        rintro r_ m4 ⟨y5, rfl, h⟩
        show zR κ (d + 1) Y_Code_readBitNumbers 37 [some (.inr c), some (.inr 3), some (.inl x2), some (.inl x3), some (.inl y2)] [.inl y5, .inl x3] m4 Q
        refine zR_iconst (v := 3) d_Code_readBitNumbers_37 (by decide) ?_
        refine zR_iadd d_Code_readBitNumbers_38 ?_
        refine zR_iadd d_Code_readBitNumbers_39 ?_
        refine zR_istore_n d_Code_readBitNumbers_40 rfl (by decide) ?_
        refine zR_goto (tgt := 5) d_Code_readBitNumbers_41 (by decide) ?_
        refine zR_drop 4 ?_
        exact h
theorem w_Code_readWord_0 {κ : zK} {d : Nat} {mem : zM} {Q : Option zV → zM → Prop} {c cn : Nat} (hc : is_Code c cn)
    (h : ((¬ (mem c 6) = 1 → zR κ (d + 1) Y_Code_readWord 22 [some (.inr c), some (.inr 3), some (.inl 0), some (.inl 0), some (.inl 1)] [] mem Q) ∧ ((mem c 6) = 1 → Q (some (.inl (mem (c + 1) 0))) mem))) : zR κ (d + 1) Y_Code_readWord 0 [some (.inr c), some (.inr 3), none, none, none] [] mem Q := by
  refine zR_aload_n d_Code_readWord_0 rfl rfl ?_
  refine zR_getI (j := 6) d_Code_readWord_1 hc.1 cl_Code rfl (by decide) g_22 ?_
  refine zR_iconst (v := 1) d_Code_readWord_4 (by decide) ?_
  refine zR_icmp_ne (tgt := 15) d_Code_readWord_5 (by decide) (fun h1 => ?_) (fun h1 => ?_)
  · replace h := h.1 h1
    refine zR_iconst (v := 0) d_Code_readWord_15 (by decide) ?_
    refine zR_istore_n d_Code_readWord_16 rfl (by decide) ?_
    refine zR_iconst (v := 0) d_Code_readWord_17 (by decide) ?_
    refine zR_istore_n d_Code_readWord_18 rfl (by decide) ?_
    refine zR_iconst (v := 1) d_Code_readWord_19 (by decide) ?_
    refine zR_istore d_Code_readWord_20 (by decide) ?_
    exact h
  · replace h := h.2 h1
    refine zR_aload_n d_Code_readWord_8 rfl rfl ?_
    refine zR_getR (j := 5) d_Code_readWord_9 hc.1 cl_Code rfl (by decide) g_23 ?_
    refine zR_iconst (v := 0) d_Code_readWord_12 (by decide) ?_
    refine zR_iaload (j := 0) d_Code_readWord_13 hc.2.1 (vp_in_nI (n := 0) (by decide) (by decide)) (by decide) ?_
    exact zR_ireturn rfl d_Code_readWord_14 h
theorem w_Code_readWord_22 {κ : zK} {d : Nat} {mem : zM} {Q : Option zV → zM → Prop} {c cn : Nat} {x2 x3 x4 : Int32} (hc : is_Code c cn)
    (h : ((6 < x4 → Q (some (.inl (-1))) mem) ∧ (¬ 6 < x4 → zR κ d Y_BitStream_take 0 [some (.inr 3), some (.inl 1), none, none] [] mem (fun r m1 => ∃ y2 : Int32, r = some (.inl y2) ∧ zR κ (d + 1) Y_Code_readWord 39 [some (.inr c), some (.inr 3), some (.inl ((2 * x2) + y2)), some (.inl x3), some (.inl x4)] [] m1 Q)))) : zR κ (d + 1) Y_Code_readWord 22 [some (.inr c), some (.inr 3), some (.inl x2), some (.inl x3), some (.inl x4)] [] mem Q := by
  refine zR_iload d_Code_readWord_22 rfl ?_
  refine zR_bipush (v := 6) d_Code_readWord_24 (by decide) ?_
  refine zR_icmp_gt (tgt := 97) d_Code_readWord_26 (by decide) (fun h1 => ?_) (fun h1 => ?_)
  · replace h := h.1 h1
    refine zR_iconst (v := (-1)) d_Code_readWord_97 (by decide) ?_
    exact zR_ireturn rfl d_Code_readWord_98 h
  · replace h := h.2 h1
    refine zR_iconst (v := 2) d_Code_readWord_29 (by decide) ?_
    refine zR_iload_n d_Code_readWord_30 rfl rfl ?_
    refine zR_imul d_Code_readWord_31 ?_
    refine zR_aload_n d_Code_readWord_32 rfl rfl ?_
    refine zR_iconst (v := 1) d_Code_readWord_33 (by decide) ?_
    refine zR_callV (Y' := Y_BitStream_take) (n := 1) (A := [.inl 1]) (b := 3) (S := [.inl (2 * x2)]) v_BitStream_take g_11 sh_3 cl_BitStream rfl d_Code_readWord_34 rfl (Nat.le_of_ble_eq_true rfl) rfl (zR_cons ?_ h)
    rintro r_ m1 ⟨y2, rfl, h⟩
    show zR κ (d + 1) Y_Code_readWord 37 [some (.inr c), some (.inr 3), some (.inl x2), some (.inl x3), some (.inl x4)] [.inl y2, .inl (2 * x2)] m1 Q
    refine zR_iadd d_Code_readWord_37 ?_
    refine zR_istore_n d_Code_readWord_38 rfl (by decide) ?_
    exact h
theorem w_Code_readWord_39 {κ : zK} {d : Nat} {mem : zM} {Q : Option zV → zM → Prop} {c cn : Nat} {x2 x3 x4 : Int32} (hc : is_Code c cn)
    (h : (((mem c 6) ≤ x3 → zR κ (d + 1) Y_Code_readWord 22 [some (.inr c), some (.inr 3), some (.inl x2), some (.inl x3), some (.inl (x4 + 1))] [] mem Q) ∧ (¬ (mem c 6) ≤ x3 → vp_in x3 64 ∧ vp_in (mem (c + 1) x3.toNatClampNeg) cn ∧ ((¬ (mem (c + 3) (mem (c + 1) x3.toNatClampNeg).toNatClampNeg) = x4 → zR κ (d + 1) Y_Code_readWord 22 [some (.inr c), some (.inr 3), some (.inl x2), some (.inl x3), some (.inl (x4 + 1))] [] mem Q) ∧ ((mem (c + 3) (mem (c + 1) x3.toNatClampNeg).toNatClampNeg) = x4 → vp_in x3 64 ∧ vp_in (mem (c + 1) x3.toNatClampNeg) cn ∧ ((¬ (mem (c + 4) (mem (c + 1) x3.toNatClampNeg).toNatClampNeg) = x2 → zR κ (d + 1) Y_Code_readWord 39 [some (.inr c), some (.inr 3), some (.inl x2), some (.inl (x3 + 1)), some (.inl x4)] [] mem Q) ∧ ((mem (c + 4) (mem (c + 1) x3.toNatClampNeg).toNatClampNeg) = x2 → vp_in x3 64 ∧ Q (some (.inl (mem (c + 1) x3.toNatClampNeg))) mem))))))) : zR κ (d + 1) Y_Code_readWord 39 [some (.inr c), some (.inr 3), some (.inl x2), some (.inl x3), some (.inl x4)] [] mem Q := by
  refine zR_iload_n d_Code_readWord_39 rfl rfl ?_
  refine zR_aload_n d_Code_readWord_40 rfl rfl ?_
  refine zR_getI (j := 6) d_Code_readWord_41 hc.1 cl_Code rfl (by decide) g_22 ?_
  refine zR_icmp_ge (tgt := 91) d_Code_readWord_44 (by decide) (fun h1 => ?_) (fun h1 => ?_)
  · replace h := h.1 h1
    refine zR_iinc (v := 1) d_Code_readWord_91 rfl (by decide) (by decide) ?_
    refine zR_goto (tgt := 22) d_Code_readWord_94 (by decide) ?_
    exact h
  · replace h := h.2 h1
    refine zR_aload_n d_Code_readWord_47 rfl rfl ?_
    refine zR_getR (j := 3) d_Code_readWord_48 hc.1 cl_Code rfl (by decide) g_24 ?_
    refine zR_aload_n d_Code_readWord_51 rfl rfl ?_
    refine zR_getR (j := 5) d_Code_readWord_52 hc.1 cl_Code rfl (by decide) g_23 ?_
    refine zR_iload_n d_Code_readWord_55 rfl rfl ?_
    refine zR_iaload d_Code_readWord_56 hc.2.1 h.1 rfl ?_
    replace h := h.2
    refine zR_iaload d_Code_readWord_57 hc.2.2.2.1 h.1 rfl ?_
    replace h := h.2
    refine zR_iload d_Code_readWord_58 rfl ?_
    refine zR_icmp_ne (tgt := 91) d_Code_readWord_60 (by decide) (fun h1 => ?_) (fun h1 => ?_)
    · replace h := h.1 h1
      refine zR_iinc (v := 1) d_Code_readWord_91 rfl (by decide) (by decide) ?_
      refine zR_goto (tgt := 22) d_Code_readWord_94 (by decide) ?_
      exact h
    · replace h := h.2 h1
      refine zR_aload_n d_Code_readWord_63 rfl rfl ?_
      refine zR_getR (j := 4) d_Code_readWord_64 hc.1 cl_Code rfl (by decide) g_25 ?_
      refine zR_aload_n d_Code_readWord_67 rfl rfl ?_
      refine zR_getR (j := 5) d_Code_readWord_68 hc.1 cl_Code rfl (by decide) g_23 ?_
      refine zR_iload_n d_Code_readWord_71 rfl rfl ?_
      refine zR_iaload d_Code_readWord_72 hc.2.1 h.1 rfl ?_
      replace h := h.2
      refine zR_iaload d_Code_readWord_73 hc.2.2.2.2 h.1 rfl ?_
      replace h := h.2
      refine zR_iload_n d_Code_readWord_74 rfl rfl ?_
      refine zR_icmp_ne (tgt := 85) d_Code_readWord_75 (by decide) (fun h1 => ?_) (fun h1 => ?_)
      · replace h := h.1 h1
        refine zR_iinc (v := 1) d_Code_readWord_85 rfl (by decide) (by decide) ?_
        refine zR_goto (tgt := 39) d_Code_readWord_88 (by decide) ?_
        exact h
      · replace h := h.2 h1
        refine zR_aload_n d_Code_readWord_78 rfl rfl ?_
        refine zR_getR (j := 5) d_Code_readWord_79 hc.1 cl_Code rfl (by decide) g_23 ?_
        refine zR_iload_n d_Code_readWord_82 rfl rfl ?_
        refine zR_iaload d_Code_readWord_83 hc.2.1 h.1 rfl ?_
        replace h := h.2
        exact zR_ireturn rfl d_Code_readWord_84 h
theorem w_Code_forgetTimes_0 {κ : zK} {d : Nat} {mem : zM} {Q : Option zV → zM → Prop} {c cn : Nat} (hc : is_Code c cn)
    (h : zR κ d Y_Code_forgetTimes 2 [some (.inr c), some (.inl 0)] [] mem Q) : zR κ d Y_Code_forgetTimes 0 [some (.inr c), none] [] mem Q := by
  refine zR_iconst (v := 0) d_Code_forgetTimes_0 (by decide) ?_
  refine zR_istore_n d_Code_forgetTimes_1 rfl (by decide) ?_
  exact h
theorem w_Code_forgetTimes_2 {κ : zK} {d : Nat} {mem : zM} {Q : Option zV → zM → Prop} {c cn : Nat} {x1 : Int32} (hc : is_Code c cn)
    (h : (((mem c 0) ≤ x1 → Q none mem) ∧ (¬ (mem c 0) ≤ x1 → vp_in x1 cn ∧ zR κ d Y_Code_forgetTimes 2 [some (.inr c), some (.inl (x1 + 1))] [] (zms mem (c + 2) x1.toNatClampNeg 0) Q))) : zR κ d Y_Code_forgetTimes 2 [some (.inr c), some (.inl x1)] [] mem Q := by
  refine zR_iload_n d_Code_forgetTimes_2 rfl rfl ?_
  refine zR_aload_n d_Code_forgetTimes_3 rfl rfl ?_
  refine zR_getI (j := 0) d_Code_forgetTimes_4 hc.1 cl_Code rfl (by decide) g_18 ?_
  refine zR_icmp_ge (tgt := 23) d_Code_forgetTimes_7 (by decide) (fun h1 => ?_) (fun h1 => ?_)
  · replace h := h.1 h1
    exact zR_return rfl d_Code_forgetTimes_23 h
  · replace h := h.2 h1
    refine zR_aload_n d_Code_forgetTimes_10 rfl rfl ?_
    refine zR_getR (j := 2) d_Code_forgetTimes_11 hc.1 cl_Code rfl (by decide) g_26 ?_
    refine zR_iload_n d_Code_forgetTimes_14 rfl rfl ?_
    refine zR_iconst (v := 0) d_Code_forgetTimes_15 (by decide) ?_
    refine zR_iastore d_Code_forgetTimes_16 hc.2.2.1 h.1 rfl ?_
    replace h := h.2
    refine zR_iinc (v := 1) d_Code_forgetTimes_17 rfl (by decide) (by decide) ?_
    refine zR_goto (tgt := 2) d_Code_forgetTimes_20 (by decide) ?_
    exact h
theorem w_Code_countOnce_0 {κ : zK} {d : Nat} {mem : zM} {Q : Option zV → zM → Prop} {c cn : Nat} {x1 : Int32} (hc : is_Code c cn)
    (h : ((x1 < 0 → Q none mem) ∧ (¬ x1 < 0 → (((mem c 0) ≤ x1 → Q none mem) ∧ (¬ (mem c 0) ≤ x1 → vp_in x1 cn ∧ vp_in x1 cn ∧ Q none (zms mem (c + 2) x1.toNatClampNeg ((mem (c + 2) x1.toNatClampNeg) + 1))))))) : zR κ d Y_Code_countOnce 0 [some (.inr c), some (.inl x1)] [] mem Q := by
  refine zR_iload_n d_Code_countOnce_0 rfl rfl ?_
  refine zR_if_lt (tgt := 22) d_Code_countOnce_1 (by decide) (fun h1 => ?_) (fun h1 => ?_)
  · replace h := h.1 h1
    exact zR_return rfl d_Code_countOnce_22 h
  · replace h := h.2 h1
    refine zR_iload_n d_Code_countOnce_4 rfl rfl ?_
    refine zR_aload_n d_Code_countOnce_5 rfl rfl ?_
    refine zR_getI (j := 0) d_Code_countOnce_6 hc.1 cl_Code rfl (by decide) g_18 ?_
    refine zR_icmp_ge (tgt := 22) d_Code_countOnce_9 (by decide) (fun h1 => ?_) (fun h1 => ?_)
    · replace h := h.1 h1
      exact zR_return rfl d_Code_countOnce_22 h
    · replace h := h.2 h1
      refine zR_aload_n d_Code_countOnce_12 rfl rfl ?_
      refine zR_getR (j := 2) d_Code_countOnce_13 hc.1 cl_Code rfl (by decide) g_26 ?_
      refine zR_iload_n d_Code_countOnce_16 rfl rfl ?_
      refine zR_dup2 d_Code_countOnce_17 ?_
      refine zR_iaload d_Code_countOnce_18 hc.2.2.1 h.1 rfl ?_
      replace h := h.2
      refine zR_iconst (v := 1) d_Code_countOnce_19 (by decide) ?_
      refine zR_iadd d_Code_countOnce_20 ?_
      refine zR_iastore d_Code_countOnce_21 hc.2.2.1 h.1 rfl ?_
      replace h := h.2
      exact zR_return rfl d_Code_countOnce_22 h
theorem w_Code_makeFromTimes_0 {κ : zK} {d : Nat} {mem : zM} {Q : Option zV → zM → Prop} {c cn : Nat} (hc : is_Code c cn)
    (h : zR κ d Y_Code_forgetListed 0 [some (.inr c), none] [] mem (fun r m1 => r = none ∧ zR κ (d + 1) Y_Code_makeFromTimes 6 [some (.inr c), some (.inl 0)] [] m1 Q)) : zR κ (d + 1) Y_Code_makeFromTimes 0 [some (.inr c), none] [] mem Q := by
  refine zR_aload_n d_Code_makeFromTimes_0 rfl rfl ?_
  refine zR_callV (Y' := Y_Code_forgetListed) (n := 0) (A := []) (b := c) (S := []) v_Code_forgetListed g_10 hc.1 cl_Code rfl d_Code_makeFromTimes_1 rfl (Nat.le_of_ble_eq_true rfl) rfl (zR_cons ?_ h)
  rintro r_ m1 ⟨rfl, h⟩
  show zR κ (d + 1) Y_Code_makeFromTimes 4 [some (.inr c), none] [] m1 Q
  refine zR_iconst (v := 0) d_Code_makeFromTimes_4 (by decide) ?_
  refine zR_istore_n d_Code_makeFromTimes_5 rfl (by decide) ?_
  exact h
theorem w_Code_makeFromTimes_6 {κ : zK} {d : Nat} {mem : zM} {Q : Option zV → zM → Prop} {c cn : Nat} {x1 : Int32} (hc : is_Code c cn)
    (h : (((mem c 0) ≤ x1 → ((¬ (mem c 6) = 0 → zR κ (d + 1) Y_Code_makeFromTimes 48 [some (.inr c), some (.inl x1)] [] mem Q) ∧ ((mem c 6) = 0 → zR κ d Y_Code_list 0 [some (.inr c), some (.inl 0), some (.inl 0)] [] mem (fun r m1 => r = none ∧ zR κ (d + 1) Y_Code_makeFromTimes 48 [some (.inr c), some (.inl x1)] [] m1 Q)))) ∧ (¬ (mem c 0) ≤ x1 → vp_in x1 cn ∧ (((mem (c + 2) x1.toNatClampNeg) ≤ 0 → zR κ (d + 1) Y_Code_makeFromTimes 6 [some (.inr c), some (.inl (x1 + 1))] [] mem Q) ∧ (¬ (mem (c + 2) x1.toNatClampNeg) ≤ 0 → zR κ d Y_Code_list 0 [some (.inr c), some (.inl x1), some (.inl 0)] [] mem (fun r m2 => r = none ∧ zR κ (d + 1) Y_Code_makeFromTimes 6 [some (.inr c), some (.inl (x1 + 1))] [] m2 Q)))))) : zR κ (d + 1) Y_Code_makeFromTimes 6 [some (.inr c), some (.inl x1)] [] mem Q := by
  refine zR_iload_n d_Code_makeFromTimes_6 rfl rfl ?_
  refine zR_aload_n d_Code_makeFromTimes_7 rfl rfl ?_
  refine zR_getI (j := 0) d_Code_makeFromTimes_8 hc.1 cl_Code rfl (by decide) g_18 ?_
  refine zR_icmp_ge (tgt := 35) d_Code_makeFromTimes_11 (by decide) (fun h1 => ?_) (fun h1 => ?_)
  · replace h := h.1 h1
    refine zR_aload_n d_Code_makeFromTimes_35 rfl rfl ?_
    refine zR_getI (j := 6) d_Code_makeFromTimes_36 hc.1 cl_Code rfl (by decide) g_22 ?_
    refine zR_if_ne (tgt := 48) d_Code_makeFromTimes_39 (by decide) (fun h1 => ?_) (fun h1 => ?_)
    · replace h := h.1 h1
      exact h
    · replace h := h.2 h1
      refine zR_aload_n d_Code_makeFromTimes_42 rfl rfl ?_
      refine zR_iconst (v := 0) d_Code_makeFromTimes_43 (by decide) ?_
      refine zR_iconst (v := 0) d_Code_makeFromTimes_44 (by decide) ?_
      refine zR_callV (Y' := Y_Code_list) (n := 2) (A := [.inl 0, .inl 0]) (b := c) (S := []) v_Code_list g_21 hc.1 cl_Code rfl d_Code_makeFromTimes_45 rfl (Nat.le_of_ble_eq_true rfl) rfl (zR_cons ?_ h)
      rintro r_ m1 ⟨rfl, h⟩
      show zR κ (d + 1) Y_Code_makeFromTimes 48 [some (.inr c), some (.inl x1)] [] m1 Q
      exact h
  · replace h := h.2 h1
    refine zR_aload_n d_Code_makeFromTimes_14 rfl rfl ?_
    refine zR_getR (j := 2) d_Code_makeFromTimes_15 hc.1 cl_Code rfl (by decide) g_26 ?_
    refine zR_iload_n d_Code_makeFromTimes_18 rfl rfl ?_
    refine zR_iaload d_Code_makeFromTimes_19 hc.2.2.1 h.1 rfl ?_
    replace h := h.2
    refine zR_if_le (tgt := 29) d_Code_makeFromTimes_20 (by decide) (fun h1 => ?_) (fun h1 => ?_)
    · replace h := h.1 h1
      refine zR_iinc (v := 1) d_Code_makeFromTimes_29 rfl (by decide) (by decide) ?_
      refine zR_goto (tgt := 6) d_Code_makeFromTimes_32 (by decide) ?_
      exact h
    · replace h := h.2 h1
      refine zR_aload_n d_Code_makeFromTimes_23 rfl rfl ?_
      refine zR_iload_n d_Code_makeFromTimes_24 rfl rfl ?_
      refine zR_iconst (v := 0) d_Code_makeFromTimes_25 (by decide) ?_
      refine zR_callV (Y' := Y_Code_list) (n := 2) (A := [.inl x1, .inl 0]) (b := c) (S := []) v_Code_list g_21 hc.1 cl_Code rfl d_Code_makeFromTimes_26 rfl (Nat.le_of_ble_eq_true rfl) rfl (zR_cons ?_ h)
      rintro r_ m2 ⟨rfl, h⟩
      show zR κ (d + 1) Y_Code_makeFromTimes 29 [some (.inr c), some (.inl x1)] [] m2 Q
      refine zR_iinc (v := 1) d_Code_makeFromTimes_29 rfl (by decide) (by decide) ?_
      refine zR_goto (tgt := 6) d_Code_makeFromTimes_32 (by decide) ?_
      exact h
theorem w_Code_makeFromTimes_48 {κ : zK} {d : Nat} {mem : zM} {Q : Option zV → zM → Prop} {c cn : Nat} {x1 : Int32} (hc : is_Code c cn)
    (h : ((4 < (mem c 6) → zR κ d Y_Code_chooseFirstBits 0 [some (.inr c), none, none, none, none] [] mem (fun r m1 => ∃ y2 : Int32, r = some (.inl y2) ∧ zR κ d Y_Code_spreadSpace 0 [some (.inr c), some (.inl y2), none, none, none, none, none] [] m1 (fun r m3 => r = none ∧ zR κ (d + 1) Y_Code_makeFromTimes 71 [some (.inr c), some (.inl x1)] [] m3 Q))) ∧ (¬ 4 < (mem c 6) → zR κ d Y_Code_chooseSimpleBits 0 [some (.inr c), none, none] [] mem (fun r m4 => r = none ∧ zR κ (d + 1) Y_Code_makeFromTimes 71 [some (.inr c), some (.inl x1)] [] m4 Q)))) : zR κ (d + 1) Y_Code_makeFromTimes 48 [some (.inr c), some (.inl x1)] [] mem Q := by
  refine zR_aload_n d_Code_makeFromTimes_48 rfl rfl ?_
  refine zR_getI (j := 6) d_Code_makeFromTimes_49 hc.1 cl_Code rfl (by decide) g_22 ?_
  refine zR_iconst (v := 4) d_Code_makeFromTimes_52 (by decide) ?_
  refine zR_icmp_gt (tgt := 63) d_Code_makeFromTimes_53 (by decide) (fun h1 => ?_) (fun h1 => ?_)
  · replace h := h.1 h1
    refine zR_aload_n d_Code_makeFromTimes_63 rfl rfl ?_
    refine zR_aload_n d_Code_makeFromTimes_64 rfl rfl ?_
    refine zR_callV (Y' := Y_Code_chooseFirstBits) (n := 0) (A := []) (b := c) (S := [.inr c]) v_Code_chooseFirstBits g_27 hc.1 cl_Code rfl d_Code_makeFromTimes_65 rfl (Nat.le_of_ble_eq_true rfl) rfl (zR_cons ?_ h)
    rintro r_ m1 ⟨y2, rfl, h⟩
    show zR κ (d + 1) Y_Code_makeFromTimes 68 [some (.inr c), some (.inl x1)] [.inl y2, .inr c] m1 Q
    refine zR_callV (Y' := Y_Code_spreadSpace) (n := 1) (A := [.inl y2]) (b := c) (S := []) v_Code_spreadSpace g_28 hc.1 cl_Code rfl d_Code_makeFromTimes_68 rfl (Nat.le_of_ble_eq_true rfl) rfl (zR_cons ?_ h)
    rintro r_ m3 ⟨rfl, h⟩
    show zR κ (d + 1) Y_Code_makeFromTimes 71 [some (.inr c), some (.inl x1)] [] m3 Q
    exact h
  · replace h := h.2 h1
    refine zR_aload_n d_Code_makeFromTimes_56 rfl rfl ?_
    refine zR_callV (Y' := Y_Code_chooseSimpleBits) (n := 0) (A := []) (b := c) (S := []) v_Code_chooseSimpleBits g_29 hc.1 cl_Code rfl d_Code_makeFromTimes_57 rfl (Nat.le_of_ble_eq_true rfl) rfl (zR_cons ?_ h)
    rintro r_ m4 ⟨rfl, h⟩
    show zR κ (d + 1) Y_Code_makeFromTimes 60 [some (.inr c), some (.inl x1)] [] m4 Q
    refine zR_goto (tgt := 71) d_Code_makeFromTimes_60 (by decide) ?_
    exact h
theorem w_Code_makeFromTimes_71 {κ : zK} {d : Nat} {mem : zM} {Q : Option zV → zM → Prop} {c cn : Nat} {x1 : Int32} (hc : is_Code c cn)
    (h : zR κ d Y_Code_sortListed 0 [some (.inr c), none, none, none, none] [] mem (fun r m1 => r = none ∧ zR κ d Y_Code_giveCodeWords 0 [some (.inr c), none, none] [] m1 (fun r m2 => r = none ∧ Q none m2))) : zR κ (d + 1) Y_Code_makeFromTimes 71 [some (.inr c), some (.inl x1)] [] mem Q := by
  refine zR_aload_n d_Code_makeFromTimes_71 rfl rfl ?_
  refine zR_callV (Y' := Y_Code_sortListed) (n := 0) (A := []) (b := c) (S := []) v_Code_sortListed g_15 hc.1 cl_Code rfl d_Code_makeFromTimes_72 rfl (Nat.le_of_ble_eq_true rfl) rfl (zR_cons ?_ h)
  rintro r_ m1 ⟨rfl, h⟩
  show zR κ (d + 1) Y_Code_makeFromTimes 75 [some (.inr c), some (.inl x1)] [] m1 Q
  refine zR_aload_n d_Code_makeFromTimes_75 rfl rfl ?_
  refine zR_callV (Y' := Y_Code_giveCodeWords) (n := 0) (A := []) (b := c) (S := []) v_Code_giveCodeWords g_16 hc.1 cl_Code rfl d_Code_makeFromTimes_76 rfl (Nat.le_of_ble_eq_true rfl) rfl (zR_cons ?_ h)
  rintro r_ m2 ⟨rfl, h⟩
  show zR κ (d + 1) Y_Code_makeFromTimes 79 [some (.inr c), some (.inl x1)] [] m2 Q
  exact zR_return rfl d_Code_makeFromTimes_79 h
theorem w_Code_chooseSimpleBits_0 {κ : zK} {d : Nat} {mem : zM} {Q : Option zV → zM → Prop} {c cn : Nat} (hc : is_Code c cn)
    (h : zR κ (d + 1) Y_Code_chooseSimpleBits 4 [some (.inr c), some (.inl 0), some (.inl 1)] [] mem Q) : zR κ (d + 1) Y_Code_chooseSimpleBits 0 [some (.inr c), none, none] [] mem Q := by
  refine zR_iconst (v := 0) d_Code_chooseSimpleBits_0 (by decide) ?_
  refine zR_istore_n d_Code_chooseSimpleBits_1 rfl (by decide) ?_
  refine zR_iconst (v := 1) d_Code_chooseSimpleBits_2 (by decide) ?_
  refine zR_istore_n d_Code_chooseSimpleBits_3 rfl (by decide) ?_
  exact h
theorem w_Code_chooseSimpleBits_4 {κ : zK} {d : Nat} {mem : zM} {Q : Option zV → zM → Prop} {c cn : Nat} {x1 x2 : Int32} (hc : is_Code c cn)
    (h : (((mem c 6) ≤ x2 → zR κ (d + 1) Y_Code_chooseSimpleBits 47 [some (.inr c), some (.inl x1), some (.inl 0)] [] mem Q) ∧ (¬ (mem c 6) ≤ x2 → vp_in x2 64 ∧ vp_in (mem (c + 1) x2.toNatClampNeg) cn ∧ vp_in x1 64 ∧ vp_in (mem (c + 1) x1.toNatClampNeg) cn ∧ (((mem (c + 2) (mem (c + 1) x2.toNatClampNeg).toNatClampNeg) ≤ (mem (c + 2) (mem (c + 1) x1.toNatClampNeg).toNatClampNeg) → zR κ (d + 1) Y_Code_chooseSimpleBits 4 [some (.inr c), some (.inl x1), some (.inl (x2 + 1))] [] mem Q) ∧ (¬ (mem (c + 2) (mem (c + 1) x2.toNatClampNeg).toNatClampNeg) ≤ (mem (c + 2) (mem (c + 1) x1.toNatClampNeg).toNatClampNeg) → zR κ (d + 1) Y_Code_chooseSimpleBits 4 [some (.inr c), some (.inl x2), some (.inl (x2 + 1))] [] mem Q))))) : zR κ (d + 1) Y_Code_chooseSimpleBits 4 [some (.inr c), some (.inl x1), some (.inl x2)] [] mem Q := by
  refine zR_iload_n d_Code_chooseSimpleBits_4 rfl rfl ?_
  refine zR_aload_n d_Code_chooseSimpleBits_5 rfl rfl ?_
  refine zR_getI (j := 6) d_Code_chooseSimpleBits_6 hc.1 cl_Code rfl (by decide) g_22 ?_
  refine zR_icmp_ge (tgt := 45) d_Code_chooseSimpleBits_9 (by decide) (fun h1 => ?_) (fun h1 => ?_)
  · replace h := h.1 h1
    refine zR_iconst (v := 0) d_Code_chooseSimpleBits_45 (by decide) ?_
    refine zR_istore_n d_Code_chooseSimpleBits_46 rfl (by decide) ?_
    exact h
  · replace h := h.2 h1
    refine zR_aload_n d_Code_chooseSimpleBits_12 rfl rfl ?_
    refine zR_getR (j := 2) d_Code_chooseSimpleBits_13 hc.1 cl_Code rfl (by decide) g_26 ?_
    refine zR_aload_n d_Code_chooseSimpleBits_16 rfl rfl ?_
    refine zR_getR (j := 5) d_Code_chooseSimpleBits_17 hc.1 cl_Code rfl (by decide) g_23 ?_
    refine zR_iload_n d_Code_chooseSimpleBits_20 rfl rfl ?_
    refine zR_iaload d_Code_chooseSimpleBits_21 hc.2.1 h.1 rfl ?_
    replace h := h.2
    refine zR_iaload d_Code_chooseSimpleBits_22 hc.2.2.1 h.1 rfl ?_
    replace h := h.2
    refine zR_aload_n d_Code_chooseSimpleBits_23 rfl rfl ?_
    refine zR_getR (j := 2) d_Code_chooseSimpleBits_24 hc.1 cl_Code rfl (by decide) g_26 ?_
    refine zR_aload_n d_Code_chooseSimpleBits_27 rfl rfl ?_
    refine zR_getR (j := 5) d_Code_chooseSimpleBits_28 hc.1 cl_Code rfl (by decide) g_23 ?_
    refine zR_iload_n d_Code_chooseSimpleBits_31 rfl rfl ?_
    refine zR_iaload d_Code_chooseSimpleBits_32 hc.2.1 h.1 rfl ?_
    replace h := h.2
    refine zR_iaload d_Code_chooseSimpleBits_33 hc.2.2.1 h.1 rfl ?_
    replace h := h.2
    refine zR_icmp_le (tgt := 39) d_Code_chooseSimpleBits_34 (by decide) (fun h1 => ?_) (fun h1 => ?_)
    · replace h := h.1 h1
      refine zR_iinc (v := 1) d_Code_chooseSimpleBits_39 rfl (by decide) (by decide) ?_
      refine zR_goto (tgt := 4) d_Code_chooseSimpleBits_42 (by decide) ?_
      exact h
    · replace h := h.2 h1
      refine zR_iload_n d_Code_chooseSimpleBits_37 rfl rfl ?_
      refine zR_istore_n d_Code_chooseSimpleBits_38 rfl (by decide) ?_
      refine zR_iinc (v := 1) d_Code_chooseSimpleBits_39 rfl (by decide) (by decide) ?_
      refine zR_goto (tgt := 4) d_Code_chooseSimpleBits_42 (by decide) ?_
      exact h
theorem w_Code_chooseSimpleBits_47 {κ : zK} {d : Nat} {mem : zM} {Q : Option zV → zM → Prop} {c cn : Nat} {x1 x2 : Int32} (hc : is_Code c cn)
    (h : (((mem c 6) ≤ x2 → Q none mem) ∧ (¬ (mem c 6) ≤ x2 → vp_in x2 64 ∧ ((¬ x2 = x1 → zR κ (d + 1) Y_Code_chooseSimpleBits 79 [some (.inr c), some (.inl x1), some (.inl x2)] [.inl 0, .inl (mem c 6), .inl (mem (c + 1) x2.toNatClampNeg), .inr (c + 3)] mem Q) ∧ (x2 = x1 → zR κ (d + 1) Y_Code_chooseSimpleBits 79 [some (.inr c), some (.inl x1), some (.inl x2)] [.inl 1, .inl (mem c 6), .inl (mem (c + 1) x2.toNatClampNeg), .inr (c + 3)] mem Q))))) : zR κ (d + 1) Y_Code_chooseSimpleBits 47 [some (.inr c), some (.inl x1), some (.inl x2)] [] mem Q := by
  refine zR_iload_n d_Code_chooseSimpleBits_47 rfl rfl ?_
  refine zR_aload_n d_Code_chooseSimpleBits_48 rfl rfl ?_
  refine zR_getI (j := 6) d_Code_chooseSimpleBits_49 hc.1 cl_Code rfl (by decide) g_22 ?_
  refine zR_icmp_ge (tgt := 89) d_Code_chooseSimpleBits_52 (by decide) (fun h1 => ?_) (fun h1 => ?_)
  · replace h := h.1 h1
    exact zR_return rfl d_Code_chooseSimpleBits_89 h
  · replace h := h.2 h1
    refine zR_aload_n d_Code_chooseSimpleBits_55 rfl rfl ?_
    refine zR_getR (j := 3) d_Code_chooseSimpleBits_56 hc.1 cl_Code rfl (by decide) g_24 ?_
    refine zR_aload_n d_Code_chooseSimpleBits_59 rfl rfl ?_
    refine zR_getR (j := 5) d_Code_chooseSimpleBits_60 hc.1 cl_Code rfl (by decide) g_23 ?_
    refine zR_iload_n d_Code_chooseSimpleBits_63 rfl rfl ?_
    refine zR_iaload d_Code_chooseSimpleBits_64 hc.2.1 h.1 rfl ?_
    replace h := h.2
    refine zR_aload_n d_Code_chooseSimpleBits_65 rfl rfl ?_
    refine zR_getI (j := 6) d_Code_chooseSimpleBits_66 hc.1 cl_Code rfl (by decide) g_22 ?_
    refine zR_iload_n d_Code_chooseSimpleBits_69 rfl rfl ?_
    refine zR_iload_n d_Code_chooseSimpleBits_70 rfl rfl ?_
    refine zR_icmp_ne (tgt := 78) d_Code_chooseSimpleBits_71 (by decide) (fun h1 => ?_) (fun h1 => ?_)
    · replace h := h.1 h1
      refine zR_iconst (v := 0) d_Code_chooseSimpleBits_78 (by decide) ?_
      exact h
    · replace h := h.2 h1
      refine zR_iconst (v := 1) d_Code_chooseSimpleBits_74 (by decide) ?_
      refine zR_goto (tgt := 79) d_Code_chooseSimpleBits_75 (by decide) ?_
      exact h
theorem w_Code_chooseSimpleBits_79 {κ : zK} {d : Nat} {mem : zM} {Q : Option zV → zM → Prop} {c cn : Nat} {x1 x2 s1 s2 s3 : Int32} (hc : is_Code c cn)
    (h : zR κ d Y_Code_simpleBits 0 [some (.inl s2), some (.inl s3)] [] mem (fun r m1 => ∃ y2 : Int32, r = some (.inl y2) ∧ vp_in s1 cn ∧ zR κ (d + 1) Y_Code_chooseSimpleBits 47 [some (.inr c), some (.inl x1), some (.inl (x2 + 1))] [] (zms m1 (c + 3) s1.toNatClampNeg y2) Q)) : zR κ (d + 1) Y_Code_chooseSimpleBits 79 [some (.inr c), some (.inl x1), some (.inl x2)] [.inl s3, .inl s2, .inl s1, .inr (c + 3)] mem Q := by
  refine zR_callS (Y' := Y_Code_simpleBits) (n := 2) (A := [.inl s2, .inl s3]) (S := [.inl s1, .inr (c + 3)]) v_Code_simpleBits g_20 d_Code_chooseSimpleBits_79 rfl (Nat.le_of_ble_eq_true rfl) rfl (zR_cons ?_ h)
  rintro r_ m1 ⟨y2, rfl, h⟩
  show zR κ (d + 1) Y_Code_chooseSimpleBits 82 [some (.inr c), some (.inl x1), some (.inl x2)] [.inl y2, .inl s1, .inr (c + 3)] m1 Q
  refine zR_iastore d_Code_chooseSimpleBits_82 hc.2.2.2.1 h.1 rfl ?_
  replace h := h.2
  refine zR_iinc (v := 1) d_Code_chooseSimpleBits_83 rfl (by decide) (by decide) ?_
  refine zR_goto (tgt := 47) d_Code_chooseSimpleBits_86 (by decide) ?_
  exact h
theorem w_Code_chooseFirstBits_0 {κ : zK} {d : Nat} {mem : zM} {Q : Option zV → zM → Prop} {c cn : Nat} (hc : is_Code c cn)
    (h : zR κ d Y_Code_chooseFirstBits 4 [some (.inr c), some (.inl 0), some (.inl 0), none, none] [] mem Q) : zR κ d Y_Code_chooseFirstBits 0 [some (.inr c), none, none, none, none] [] mem Q := by
  refine zR_iconst (v := 0) d_Code_chooseFirstBits_0 (by decide) ?_
  refine zR_istore_n d_Code_chooseFirstBits_1 rfl (by decide) ?_
  refine zR_iconst (v := 0) d_Code_chooseFirstBits_2 (by decide) ?_
  refine zR_istore_n d_Code_chooseFirstBits_3 rfl (by decide) ?_
  exact h
theorem w_Code_chooseFirstBits_4 {κ : zK} {d : Nat} {mem : zM} {Q : Option zV → zM → Prop} {c cn : Nat} {x1 x2 : Int32} (hc : is_Code c cn)
    (h : (((mem c 6) ≤ x2 → zR κ d Y_Code_chooseFirstBits 37 [some (.inr c), some (.inl x1), some (.inl 64), some (.inl 0), none] [] mem Q) ∧ (¬ (mem c 6) ≤ x2 → vp_in x2 64 ∧ vp_in (mem (c + 1) x2.toNatClampNeg) cn ∧ zR κ d Y_Code_chooseFirstBits 4 [some (.inr c), some (.inl (x1 + (mem (c + 2) (mem (c + 1) x2.toNatClampNeg).toNatClampNeg))), some (.inl (x2 + 1)), none, none] [] mem Q))) : zR κ d Y_Code_chooseFirstBits 4 [some (.inr c), some (.inl x1), some (.inl x2), none, none] [] mem Q := by
  refine zR_iload_n d_Code_chooseFirstBits_4 rfl rfl ?_
  refine zR_aload_n d_Code_chooseFirstBits_5 rfl rfl ?_
  refine zR_getI (j := 6) d_Code_chooseFirstBits_6 hc.1 cl_Code rfl (by decide) g_22 ?_
  refine zR_icmp_ge (tgt := 32) d_Code_chooseFirstBits_9 (by decide) (fun h1 => ?_) (fun h1 => ?_)
  · replace h := h.1 h1
    refine zR_bipush (v := 64) d_Code_chooseFirstBits_32 (by decide) ?_
    refine zR_istore_n d_Code_chooseFirstBits_34 rfl (by decide) ?_
    refine zR_iconst (v := 0) d_Code_chooseFirstBits_35 (by decide) ?_
    refine zR_istore_n d_Code_chooseFirstBits_36 rfl (by decide) ?_
    exact h
  · replace h := h.2 h1
    refine zR_iload_n d_Code_chooseFirstBits_12 rfl rfl ?_
    refine zR_aload_n d_Code_chooseFirstBits_13 rfl rfl ?_
    refine zR_getR (j := 2) d_Code_chooseFirstBits_14 hc.1 cl_Code rfl (by decide) g_26 ?_
    refine zR_aload_n d_Code_chooseFirstBits_17 rfl rfl ?_
    refine zR_getR (j := 5) d_Code_chooseFirstBits_18 hc.1 cl_Code rfl (by decide) g_23 ?_
    refine zR_iload_n d_Code_chooseFirstBits_21 rfl rfl ?_
    refine zR_iaload d_Code_chooseFirstBits_22 hc.2.1 h.1 rfl ?_
    replace h := h.2
    refine zR_iaload d_Code_chooseFirstBits_23 hc.2.2.1 h.1 rfl ?_
    replace h := h.2
    refine zR_iadd d_Code_chooseFirstBits_24 ?_
    refine zR_istore_n d_Code_chooseFirstBits_25 rfl (by decide) ?_
    refine zR_iinc (v := 1) d_Code_chooseFirstBits_26 rfl (by decide) (by decide) ?_
    refine zR_goto (tgt := 4) d_Code_chooseFirstBits_29 (by decide) ?_
    exact h
theorem w_Code_chooseFirstBits_37 {κ : zK} {d : Nat} {mem : zM} {Q : Option zV → zM → Prop} {c cn : Nat} {x1 x2 x3 : Int32} (hc : is_Code c cn)
    (h : (((mem c 6) ≤ x3 → Q (some (.inl x2)) mem) ∧ (¬ (mem c 6) ≤ x3 → zR κ d Y_Code_chooseFirstBits 48 [some (.inr c), some (.inl x1), some (.inl x2), some (.inl x3), some (.inl 1)] [] mem Q))) : zR κ d Y_Code_chooseFirstBits 37 [some (.inr c), some (.inl x1), some (.inl x2), some (.inl x3), none] [] mem Q := by
  refine zR_iload_n d_Code_chooseFirstBits_37 rfl rfl ?_
  refine zR_aload_n d_Code_chooseFirstBits_38 rfl rfl ?_
  refine zR_getI (j := 6) d_Code_chooseFirstBits_39 hc.1 cl_Code rfl (by decide) g_22 ?_
  refine zR_icmp_ge (tgt := 106) d_Code_chooseFirstBits_42 (by decide) (fun h1 => ?_) (fun h1 => ?_)
  · replace h := h.1 h1
    refine zR_iload_n d_Code_chooseFirstBits_106 rfl rfl ?_
    exact zR_ireturn rfl d_Code_chooseFirstBits_107 h
  · replace h := h.2 h1
    refine zR_iconst (v := 1) d_Code_chooseFirstBits_45 (by decide) ?_
    refine zR_istore d_Code_chooseFirstBits_46 (by decide) ?_
    exact h
theorem w_Code_chooseFirstBits_48 {κ : zK} {d : Nat} {mem : zM} {Q : Option zV → zM → Prop} {c cn : Nat} {x1 x2 x3 x4 : Int32} (hc : is_Code c cn)
    (h : ((6 ≤ x4 → zR κ d Y_Code_chooseFirstBits 79 [some (.inr c), some (.inl x1), some (.inl x2), some (.inl x3), some (.inl x4)] [] mem Q) ∧ (¬ 6 ≤ x4 → vp_in x3 64 ∧ vp_in (mem (c + 1) x3.toNatClampNeg) cn ∧ ((x1 ≤ ((mem (c + 2) (mem (c + 1) x3.toNatClampNeg).toNatClampNeg) <<< (x4 &&& 31)) → zR κ d Y_Code_chooseFirstBits 79 [some (.inr c), some (.inl x1), some (.inl x2), some (.inl x3), some (.inl x4)] [] mem Q) ∧ (¬ x1 ≤ ((mem (c + 2) (mem (c + 1) x3.toNatClampNeg).toNatClampNeg) <<< (x4 &&& 31)) → zR κ d Y_Code_chooseFirstBits 48 [some (.inr c), some (.inl x1), some (.inl x2), some (.inl x3), some (.inl (x4 + 1))] [] mem Q))))) : zR κ d Y_Code_chooseFirstBits 48 [some (.inr c), some (.inl x1), some (.inl x2), some (.inl x3), some (.inl x4)] [] mem Q := by
  refine zR_iload d_Code_chooseFirstBits_48 rfl ?_
  refine zR_bipush (v := 6) d_Code_chooseFirstBits_50 (by decide) ?_
  refine zR_icmp_ge (tgt := 79) d_Code_chooseFirstBits_52 (by decide) (fun h1 => ?_) (fun h1 => ?_)
  · replace h := h.1 h1
    exact h
  · replace h := h.2 h1
    refine zR_aload_n d_Code_chooseFirstBits_55 rfl rfl ?_
    refine zR_getR (j := 2) d_Code_chooseFirstBits_56 hc.1 cl_Code rfl (by decide) g_26 ?_
    refine zR_aload_n d_Code_chooseFirstBits_59 rfl rfl ?_
    refine zR_getR (j := 5) d_Code_chooseFirstBits_60 hc.1 cl_Code rfl (by decide) g_23 ?_
    refine zR_iload_n d_Code_chooseFirstBits_63 rfl rfl ?_
    refine zR_iaload d_Code_chooseFirstBits_64 hc.2.1 h.1 rfl ?_
    replace h := h.2
    refine zR_iaload d_Code_chooseFirstBits_65 hc.2.2.1 h.1 rfl ?_
    replace h := h.2
    refine zR_iload d_Code_chooseFirstBits_66 rfl ?_
    refine zR_ishl d_Code_chooseFirstBits_68 rfl ?_
    refine zR_iload_n d_Code_chooseFirstBits_69 rfl rfl ?_
    refine zR_icmp_ge (tgt := 79) d_Code_chooseFirstBits_70 (by decide) (fun h1 => ?_) (fun h1 => ?_)
    · replace h := h.1 h1
      exact h
    · replace h := h.2 h1
      refine zR_iinc (v := 1) d_Code_chooseFirstBits_73 rfl (by decide) (by decide) ?_
      refine zR_goto (tgt := 48) d_Code_chooseFirstBits_76 (by decide) ?_
      exact h
theorem w_Code_chooseFirstBits_79 {κ : zK} {d : Nat} {mem : zM} {Q : Option zV → zM → Prop} {c cn : Nat} {x1 x2 x3 x4 : Int32} (hc : is_Code c cn)
    (h : vp_in x3 64 ∧ vp_in (mem (c + 1) x3.toNatClampNeg) cn ∧ zR κ d Y_Code_chooseFirstBits 37 [some (.inr c), some (.inl x1), some (.inl (x2 - ((64 : Int32) >>> (x4 &&& 31)))), some (.inl (x3 + 1)), none] [] (zms mem (c + 3) (mem (c + 1) x3.toNatClampNeg).toNatClampNeg x4) Q) : zR κ d Y_Code_chooseFirstBits 79 [some (.inr c), some (.inl x1), some (.inl x2), some (.inl x3), some (.inl x4)] [] mem Q := by
  refine zR_aload_n d_Code_chooseFirstBits_79 rfl rfl ?_
  refine zR_getR (j := 3) d_Code_chooseFirstBits_80 hc.1 cl_Code rfl (by decide) g_24 ?_
  refine zR_aload_n d_Code_chooseFirstBits_83 rfl rfl ?_
  refine zR_getR (j := 5) d_Code_chooseFirstBits_84 hc.1 cl_Code rfl (by decide) g_23 ?_
  refine zR_iload_n d_Code_chooseFirstBits_87 rfl rfl ?_
  refine zR_iaload d_Code_chooseFirstBits_88 hc.2.1 h.1 rfl ?_
  replace h := h.2
  refine zR_iload d_Code_chooseFirstBits_89 rfl ?_
  refine zR_iastore d_Code_chooseFirstBits_91 hc.2.2.2.1 h.1 rfl ?_
  replace h := h.2
  refine zR_iload_n d_Code_chooseFirstBits_92 rfl rfl ?_
  refine zR_bipush (v := 64) d_Code_chooseFirstBits_93 (by decide) ?_
  refine zR_iload d_Code_chooseFirstBits_95 rfl ?_
  refine zR_ishr d_Code_chooseFirstBits_97 rfl ?_
  refine zR_isub d_Code_chooseFirstBits_98 ?_
  refine zR_istore_n d_Code_chooseFirstBits_99 rfl (by decide) ?_
  refine zR_iinc (v := 1) d_Code_chooseFirstBits_100 rfl (by decide) (by decide) ?_
  refine zR_goto (tgt := 37) d_Code_chooseFirstBits_103 (by decide) ?_
  refine zR_drop 4 ?_
  exact h
theorem w_Code_spreadSpace_0 {κ : zK} {d : Nat} {mem : zM} {Q : Option zV → zM → Prop} {c cn : Nat} {x1 : Int32} (hc : is_Code c cn)
    (h : zR κ d Y_Code_spreadSpace 4 [some (.inr c), some (.inl x1), some (.inl x1), some (.inl 0), none, none, none] [] mem Q) : zR κ d Y_Code_spreadSpace 0 [some (.inr c), some (.inl x1), none, none, none, none, none] [] mem Q := by
  refine zR_iload_n d_Code_spreadSpace_0 rfl rfl ?_
  refine zR_istore_n d_Code_spreadSpace_1 rfl (by decide) ?_
  refine zR_iconst (v := 0) d_Code_spreadSpace_2 (by decide) ?_
  refine zR_istore_n d_Code_spreadSpace_3 rfl (by decide) ?_
  exact h
theorem w_Code_spreadSpace_4 {κ : zK} {d : Nat} {mem : zM} {Q : Option zV → zM → Prop} {c cn : Nat} {x1 x2 x3 : Int32} (hc : is_Code c cn)
    (h : ((384 ≤ x3 → Q none mem) ∧ (¬ 384 ≤ x3 → ((x2 ≤ 0 → Q none mem) ∧ (¬ x2 ≤ 0 → zR κ d Y_Code_spreadSpace 18 [some (.inr c), some (.inl x1), some (.inl x2), some (.inl x3), some (.inl 0), none, none] [] mem Q))))) : zR κ d Y_Code_spreadSpace 4 [some (.inr c), some (.inl x1), some (.inl x2), some (.inl x3), none, none, none] [] mem Q := by
  refine zR_iload_n d_Code_spreadSpace_4 rfl rfl ?_
  refine zR_sipush (v := 384) d_Code_spreadSpace_5 (by decide) ?_
  refine zR_icmp_ge (tgt := 93) d_Code_spreadSpace_8 (by decide) (fun h1 => ?_) (fun h1 => ?_)
  · replace h := h.1 h1
    exact zR_return rfl d_Code_spreadSpace_93 h
  · replace h := h.2 h1
    refine zR_iload_n d_Code_spreadSpace_11 rfl rfl ?_
    refine zR_if_le (tgt := 93) d_Code_spreadSpace_12 (by decide) (fun h1 => ?_) (fun h1 => ?_)
    · replace h := h.1 h1
      exact zR_return rfl d_Code_spreadSpace_93 h
    · replace h := h.2 h1
      refine zR_iconst (v := 0) d_Code_spreadSpace_15 (by decide) ?_
      refine zR_istore d_Code_spreadSpace_16 (by decide) ?_
      exact h
theorem w_Code_spreadSpace_18 {κ : zK} {d : Nat} {mem : zM} {Q : Option zV → zM → Prop} {c cn : Nat} {x1 x2 x3 x4 : Int32} (hc : is_Code c cn)
    (h : (((mem c 6) ≤ x4 → zR κ d Y_Code_spreadSpace 4 [some (.inr c), some (.inl x1), some (.inl x2), some (.inl (x3 + 1)), none, none, none] [] mem Q) ∧ (¬ (mem c 6) ≤ x4 → vp_in x4 64 ∧ vp_in (mem (c + 1) x4.toNatClampNeg) cn ∧ (((mem (c + 3) (mem (c + 1) x4.toNatClampNeg).toNatClampNeg) ≤ 1 → zR κ d Y_Code_spreadSpace 18 [some (.inr c), some (.inl x1), some (.inl x2), some (.inl x3), some (.inl (x4 + 1)), none, none] [] mem Q) ∧ (¬ (mem (c + 3) (mem (c + 1) x4.toNatClampNeg).toNatClampNeg) ≤ 1 → ((x2 < ((64 : Int32) >>> ((mem (c + 3) (mem (c + 1) x4.toNatClampNeg).toNatClampNeg) &&& 31)) → zR κ d Y_Code_spreadSpace 18 [some (.inr c), some (.inl x1), some (.inl x2), some (.inl x3), some (.inl (x4 + 1)), none, none] [] mem Q) ∧ (¬ x2 < ((64 : Int32) >>> ((mem (c + 3) (mem (c + 1) x4.toNatClampNeg).toNatClampNeg) &&& 31)) → vp_in x4 64 ∧ vp_in (mem (c + 1) x4.toNatClampNeg) cn ∧ zR κ d Y_Code_spreadSpace 18 [some (.inr c), some (.inl x1), some (.inl (x2 - ((64 : Int32) >>> ((mem (c + 3) (mem (c + 1) x4.toNatClampNeg).toNatClampNeg) &&& 31)))), some (.inl x3), some (.inl (x4 + 1)), none, none] [] (zms mem (c + 3) (mem (c + 1) x4.toNatClampNeg).toNatClampNeg ((mem (c + 3) (mem (c + 1) x4.toNatClampNeg).toNatClampNeg) - 1)) Q))))))) : zR κ d Y_Code_spreadSpace 18 [some (.inr c), some (.inl x1), some (.inl x2), some (.inl x3), some (.inl x4), none, none] [] mem Q := by
  refine zR_iload d_Code_spreadSpace_18 rfl ?_
  refine zR_aload_n d_Code_spreadSpace_20 rfl rfl ?_
  refine zR_getI (j := 6) d_Code_spreadSpace_21 hc.1 cl_Code rfl (by decide) g_22 ?_
  refine zR_icmp_ge (tgt := 87) d_Code_spreadSpace_24 (by decide) (fun h1 => ?_) (fun h1 => ?_)
  · replace h := h.1 h1
    refine zR_iinc (v := 1) d_Code_spreadSpace_87 rfl (by decide) (by decide) ?_
    refine zR_goto (tgt := 4) d_Code_spreadSpace_90 (by decide) ?_
    refine zR_drop 4 ?_
    exact h
  · replace h := h.2 h1
    refine zR_aload_n d_Code_spreadSpace_27 rfl rfl ?_
    refine zR_getR (j := 3) d_Code_spreadSpace_28 hc.1 cl_Code rfl (by decide) g_24 ?_
    refine zR_aload_n d_Code_spreadSpace_31 rfl rfl ?_
    refine zR_getR (j := 5) d_Code_spreadSpace_32 hc.1 cl_Code rfl (by decide) g_23 ?_
    refine zR_iload d_Code_spreadSpace_35 rfl ?_
    refine zR_iaload d_Code_spreadSpace_37 hc.2.1 h.1 rfl ?_
    replace h := h.2
    refine zR_iaload d_Code_spreadSpace_38 hc.2.2.2.1 h.1 rfl ?_
    replace h := h.2
    refine zR_istore d_Code_spreadSpace_39 (by decide) ?_
    refine zR_bipush (v := 64) d_Code_spreadSpace_41 (by decide) ?_
    refine zR_iload d_Code_spreadSpace_43 rfl ?_
    refine zR_ishr d_Code_spreadSpace_45 rfl ?_
    refine zR_istore d_Code_spreadSpace_46 (by decide) ?_
    refine zR_iload d_Code_spreadSpace_48 rfl ?_
    refine zR_iconst (v := 1) d_Code_spreadSpace_50 (by decide) ?_
    refine zR_icmp_le (tgt := 81) d_Code_spreadSpace_51 (by decide) (fun h1 => ?_) (fun h1 => ?_)
    · replace h := h.1 h1
      refine zR_iinc (v := 1) d_Code_spreadSpace_81 rfl (by decide) (by decide) ?_
      refine zR_goto (tgt := 18) d_Code_spreadSpace_84 (by decide) ?_
      refine zR_drop 5 ?_
      refine zR_drop 6 ?_
      exact h
    · replace h := h.2 h1
      refine zR_iload d_Code_spreadSpace_54 rfl ?_
      refine zR_iload_n d_Code_spreadSpace_56 rfl rfl ?_
      refine zR_icmp_gt (tgt := 81) d_Code_spreadSpace_57 (by decide) (fun h1 => ?_) (fun h1 => ?_)
      · replace h := h.1 h1
        refine zR_iinc (v := 1) d_Code_spreadSpace_81 rfl (by decide) (by decide) ?_
        refine zR_goto (tgt := 18) d_Code_spreadSpace_84 (by decide) ?_
        refine zR_drop 5 ?_
        refine zR_drop 6 ?_
        exact h
      · replace h := h.2 h1
        refine zR_aload_n d_Code_spreadSpace_60 rfl rfl ?_
        refine zR_getR (j := 3) d_Code_spreadSpace_61 hc.1 cl_Code rfl (by decide) g_24 ?_
        refine zR_aload_n d_Code_spreadSpace_64 rfl rfl ?_
        refine zR_getR (j := 5) d_Code_spreadSpace_65 hc.1 cl_Code rfl (by decide) g_23 ?_
        refine zR_iload d_Code_spreadSpace_68 rfl ?_
        refine zR_iaload d_Code_spreadSpace_70 hc.2.1 h.1 rfl ?_
        replace h := h.2
        refine zR_iload d_Code_spreadSpace_71 rfl ?_
        refine zR_iconst (v := 1) d_Code_spreadSpace_73 (by decide) ?_
        refine zR_isub d_Code_spreadSpace_74 ?_
        refine zR_iastore d_Code_spreadSpace_75 hc.2.2.2.1 h.1 rfl ?_
        replace h := h.2
        refine zR_iload_n d_Code_spreadSpace_76 rfl rfl ?_
        refine zR_iload d_Code_spreadSpace_77 rfl ?_
        refine zR_isub d_Code_spreadSpace_79 ?_
        refine zR_istore_n d_Code_spreadSpace_80 rfl (by decide) ?_
        refine zR_iinc (v := 1) d_Code_spreadSpace_81 rfl (by decide) (by decide) ?_
        refine zR_goto (tgt := 18) d_Code_spreadSpace_84 (by decide) ?_
        refine zR_drop 5 ?_
        refine zR_drop 6 ?_
        exact h
theorem w_Code_writeDescription_0 {κ : zK} {d : Nat} {mem : zM} {Q : Option zV → zM → Prop} {c cn : Nat} (hc : is_Code c cn)
    (h : (((mem c 6) ≤ 4 → zR κ d Y_BitStream_give 0 [some (.inr 3), some (.inl 1), some (.inl 1), none, none, none] [] mem (fun r m1 => r = none ∧ zR κ d Y_BitStream_give 0 [some (.inr 3), some (.inl ((m1 c 6) - 1)), some (.inl 2), none, none, none] [] m1 (fun r m2 => r = none ∧ zR κ (d + 1) Y_Code_writeDescription 39 [some (.inr c), some (.inr 3), some (.inl 0)] [] m2 Q))) ∧ (¬ (mem c 6) ≤ 4 → zR κ d Y_BitStream_give 0 [some (.inr 3), some (.inl 0), some (.inl 1), none, none, none] [] mem (fun r m3 => r = none ∧ zR κ d Y_Code_writeBitNumbers 0 [some (.inr c), some (.inr 3), none, none, none] [] m3 (fun r m4 => r = none ∧ Q none m4))))) : zR κ (d + 1) Y_Code_writeDescription 0 [some (.inr c), some (.inr 3), none] [] mem Q := by
  refine zR_aload_n d_Code_writeDescription_0 rfl rfl ?_
  refine zR_getI (j := 6) d_Code_writeDescription_1 hc.1 cl_Code rfl (by decide) g_22 ?_
  refine zR_iconst (v := 4) d_Code_writeDescription_4 (by decide) ?_
  refine zR_icmp_le (tgt := 20) d_Code_writeDescription_5 (by decide) (fun h1 => ?_) (fun h1 => ?_)
  · replace h := h.1 h1
    refine zR_aload_n d_Code_writeDescription_20 rfl rfl ?_
    refine zR_iconst (v := 1) d_Code_writeDescription_21 (by decide) ?_
    refine zR_iconst (v := 1) d_Code_writeDescription_22 (by decide) ?_
    refine zR_callV (Y' := Y_BitStream_give) (n := 2) (A := [.inl 1, .inl 1]) (b := 3) (S := []) v_BitStream_give g_30 sh_3 cl_BitStream rfl d_Code_writeDescription_23 rfl (Nat.le_of_ble_eq_true rfl) rfl (zR_cons ?_ h)
    rintro r_ m1 ⟨rfl, h⟩
    show zR κ (d + 1) Y_Code_writeDescription 26 [some (.inr c), some (.inr 3), none] [] m1 Q
    refine zR_aload_n d_Code_writeDescription_26 rfl rfl ?_
    refine zR_aload_n d_Code_writeDescription_27 rfl rfl ?_
    refine zR_getI (j := 6) d_Code_writeDescription_28 hc.1 cl_Code rfl (by decide) g_22 ?_
    refine zR_iconst (v := 1) d_Code_writeDescription_31 (by decide) ?_
    refine zR_isub d_Code_writeDescription_32 ?_
    refine zR_iconst (v := 2) d_Code_writeDescription_33 (by decide) ?_
    refine zR_callV (Y' := Y_BitStream_give) (n := 2) (A := [.inl ((m1 c 6) - 1), .inl 2]) (b := 3) (S := []) v_BitStream_give g_30 sh_3 cl_BitStream rfl d_Code_writeDescription_34 rfl (Nat.le_of_ble_eq_true rfl) rfl (zR_cons ?_ h)
    rintro r_ m2 ⟨rfl, h⟩
    show zR κ (d + 1) Y_Code_writeDescription 37 [some (.inr c), some (.inr 3), none] [] m2 Q
    refine zR_iconst (v := 0) d_Code_writeDescription_37 (by decide) ?_
    refine zR_istore_n d_Code_writeDescription_38 rfl (by decide) ?_
    exact h
  · replace h := h.2 h1
    refine zR_aload_n d_Code_writeDescription_8 rfl rfl ?_
    refine zR_iconst (v := 0) d_Code_writeDescription_9 (by decide) ?_
    refine zR_iconst (v := 1) d_Code_writeDescription_10 (by decide) ?_
    refine zR_callV (Y' := Y_BitStream_give) (n := 2) (A := [.inl 0, .inl 1]) (b := 3) (S := []) v_BitStream_give g_30 sh_3 cl_BitStream rfl d_Code_writeDescription_11 rfl (Nat.le_of_ble_eq_true rfl) rfl (zR_cons ?_ h)
    rintro r_ m3 ⟨rfl, h⟩
    show zR κ (d + 1) Y_Code_writeDescription 14 [some (.inr c), some (.inr 3), none] [] m3 Q
    refine zR_aload_n d_Code_writeDescription_14 rfl rfl ?_
    refine zR_aload_n d_Code_writeDescription_15 rfl rfl ?_
    refine zR_callV (Y' := Y_Code_writeBitNumbers) (n := 1) (A := [.inr 3]) (b := c) (S := []) v_Code_writeBitNumbers g_31 hc.1 cl_Code rfl d_Code_writeDescription_16 rfl (Nat.le_of_ble_eq_true rfl) rfl (zR_cons ?_ h)
    rintro r_ m4 ⟨rfl, h⟩
    show zR κ (d + 1) Y_Code_writeDescription 19 [some (.inr c), some (.inr 3), none] [] m4 Q
    exact zR_return rfl d_Code_writeDescription_19 h
theorem w_Code_writeDescription_39 {κ : zK} {d : Nat} {mem : zM} {Q : Option zV → zM → Prop} {c cn : Nat} {x2 : Int32} (hc : is_Code c cn)
    (h : (((mem c 6) ≤ x2 → Q none mem) ∧ (¬ (mem c 6) ≤ x2 → vp_in x2 64 ∧ zR κ d Y_BitStream_give 0 [some (.inr 3), some (.inl (mem (c + 1) x2.toNatClampNeg)), some (.inl (mem c 1)), none, none, none] [] mem (fun r m1 => r = none ∧ zR κ (d + 1) Y_Code_writeDescription 39 [some (.inr c), some (.inr 3), some (.inl (x2 + 1))] [] m1 Q)))) : zR κ (d + 1) Y_Code_writeDescription 39 [some (.inr c), some (.inr 3), some (.inl x2)] [] mem Q := by
  refine zR_iload_n d_Code_writeDescription_39 rfl rfl ?_
  refine zR_aload_n d_Code_writeDescription_40 rfl rfl ?_
  refine zR_getI (j := 6) d_Code_writeDescription_41 hc.1 cl_Code rfl (by decide) g_22 ?_
  refine zR_icmp_ge (tgt := 67) d_Code_writeDescription_44 (by decide) (fun h1 => ?_) (fun h1 => ?_)
  · replace h := h.1 h1
    exact zR_return rfl d_Code_writeDescription_67 h
  · replace h := h.2 h1
    refine zR_aload_n d_Code_writeDescription_47 rfl rfl ?_
    refine zR_aload_n d_Code_writeDescription_48 rfl rfl ?_
    refine zR_getR (j := 5) d_Code_writeDescription_49 hc.1 cl_Code rfl (by decide) g_23 ?_
    refine zR_iload_n d_Code_writeDescription_52 rfl rfl ?_
    refine zR_iaload d_Code_writeDescription_53 hc.2.1 h.1 rfl ?_
    replace h := h.2
    refine zR_aload_n d_Code_writeDescription_54 rfl rfl ?_
    refine zR_getI (j := 1) d_Code_writeDescription_55 hc.1 cl_Code rfl (by decide) g_17 ?_
    refine zR_callV (Y' := Y_BitStream_give) (n := 2) (A := [.inl (mem (c + 1) x2.toNatClampNeg), .inl (mem c 1)]) (b := 3) (S := []) v_BitStream_give g_30 sh_3 cl_BitStream rfl d_Code_writeDescription_58 rfl (Nat.le_of_ble_eq_true rfl) rfl (zR_cons ?_ h)
    rintro r_ m1 ⟨rfl, h⟩
    show zR κ (d + 1) Y_Code_writeDescription 61 [some (.inr c), some (.inr 3), some (.inl x2)] [] m1 Q
    refine zR_iinc (v := 1) d_Code_writeDescription_61 rfl (by decide) (by decide) ?_
    refine zR_goto (tgt := 39) d_Code_writeDescription_64 (by decide) ?_
    exact h
theorem w_Code_writeBitNumbers_0 {κ : zK} {d : Nat} {mem : zM} {Q : Option zV → zM → Prop} {c cn : Nat} (hc : is_Code c cn)
    (h : zR κ (d + 1) Y_Code_writeBitNumbers 7 [some (.inr c), some (.inr 3), some (.inl 0), some (.inl 0), some (.inl 0)] [] mem Q) : zR κ (d + 1) Y_Code_writeBitNumbers 0 [some (.inr c), some (.inr 3), none, none, none] [] mem Q := by
  refine zR_iconst (v := 0) d_Code_writeBitNumbers_0 (by decide) ?_
  refine zR_istore_n d_Code_writeBitNumbers_1 rfl (by decide) ?_
  refine zR_iconst (v := 0) d_Code_writeBitNumbers_2 (by decide) ?_
  refine zR_istore_n d_Code_writeBitNumbers_3 rfl (by decide) ?_
  refine zR_iconst (v := 0) d_Code_writeBitNumbers_4 (by decide) ?_
  refine zR_istore d_Code_writeBitNumbers_5 (by decide) ?_
  exact h
theorem w_Code_writeBitNumbers_7 {κ : zK} {d : Nat} {mem : zM} {Q : Option zV → zM → Prop} {c cn : Nat} {x2 x3 x4 : Int32} (hc : is_Code c cn)
    (h : (((mem c 0) ≤ x4 → Q none mem) ∧ (¬ (mem c 0) ≤ x4 → (((mem c 6) ≤ x2 → Q none mem) ∧ (¬ (mem c 6) ≤ x2 → vp_in x4 cn ∧ ((¬ (mem (c + 3) x4.toNatClampNeg) = 0 → zR κ d Y_Code_writeMissing 0 [some (.inr 3), some (.inl x3), none, none] [] mem (fun r m1 => r = none ∧ vp_in x4 cn ∧ zR κ d Y_BitStream_give 0 [some (.inr 3), some (.inl (m1 (c + 3) x4.toNatClampNeg)), some (.inl 3), none, none, none] [] m1 (fun r m2 => r = none ∧ zR κ (d + 1) Y_Code_writeBitNumbers 7 [some (.inr c), some (.inr 3), some (.inl (x2 + 1)), some (.inl 0), some (.inl (x4 + 1))] [] m2 Q))) ∧ ((mem (c + 3) x4.toNatClampNeg) = 0 → zR κ (d + 1) Y_Code_writeBitNumbers 7 [some (.inr c), some (.inr 3), some (.inl x2), some (.inl (x3 + 1)), some (.inl (x4 + 1))] [] mem Q))))))) : zR κ (d + 1) Y_Code_writeBitNumbers 7 [some (.inr c), some (.inr 3), some (.inl x2), some (.inl x3), some (.inl x4)] [] mem Q := by
  refine zR_iload d_Code_writeBitNumbers_7 rfl ?_
  refine zR_aload_n d_Code_writeBitNumbers_9 rfl rfl ?_
  refine zR_getI (j := 0) d_Code_writeBitNumbers_10 hc.1 cl_Code rfl (by decide) g_18 ?_
  refine zR_icmp_ge (tgt := 68) d_Code_writeBitNumbers_13 (by decide) (fun h1 => ?_) (fun h1 => ?_)
  · replace h := h.1 h1
    exact zR_return rfl d_Code_writeBitNumbers_68 h
  · replace h := h.2 h1
    refine zR_iload_n d_Code_writeBitNumbers_16 rfl rfl ?_
    refine zR_aload_n d_Code_writeBitNumbers_17 rfl rfl ?_
    refine zR_getI (j := 6) d_Code_writeBitNumbers_18 hc.1 cl_Code rfl (by decide) g_22 ?_
    refine zR_icmp_ge (tgt := 68) d_Code_writeBitNumbers_21 (by decide) (fun h1 => ?_) (fun h1 => ?_)
    · replace h := h.1 h1
      exact zR_return rfl d_Code_writeBitNumbers_68 h
    · replace h := h.2 h1
      refine zR_aload_n d_Code_writeBitNumbers_24 rfl rfl ?_
      refine zR_getR (j := 3) d_Code_writeBitNumbers_25 hc.1 cl_Code rfl (by decide) g_24 ?_
      refine zR_iload d_Code_writeBitNumbers_28 rfl ?_
      refine zR_iaload d_Code_writeBitNumbers_30 hc.2.2.2.1 h.1 rfl ?_
      replace h := h.2
      refine zR_if_ne (tgt := 40) d_Code_writeBitNumbers_31 (by decide) (fun h1 => ?_) (fun h1 => ?_)
      · replace h := h.1 h1
        refine zR_aload_n d_Code_writeBitNumbers_40 rfl rfl ?_
        refine zR_iload_n d_Code_writeBitNumbers_41 rfl rfl ?_
        refine zR_callS (Y' := Y_Code_writeMissing) (n := 2) (A := [.inr 3, .inl x3]) (S := []) v_Code_writeMissing g_32 d_Code_writeBitNumbers_42 rfl (Nat.le_of_ble_eq_true rfl) rfl (zR_cons ?_ h)
        rintro r_ m1 ⟨rfl, h⟩
        show zR κ (d + 1) Y_Code_writeBitNumbers 45 [some (.inr c), some (.inr 3), some (.inl x2), some (.inl x3), some (.inl x4)] [] m1 Q
        refine zR_iconst (v := 0) d_Code_writeBitNumbers_45 (by decide) ?_
        refine zR_istore_n d_Code_writeBitNumbers_46 rfl (by decide) ?_
        refine zR_aload_n d_Code_writeBitNumbers_47 rfl rfl ?_
        refine zR_aload_n d_Code_writeBitNumbers_48 rfl rfl ?_
        refine zR_getR (j := 3) d_Code_writeBitNumbers_49 hc.1 cl_Code rfl (by decide) g_24 ?_
        refine zR_iload d_Code_writeBitNumbers_52 rfl ?_
        refine zR_iaload d_Code_writeBitNumbers_54 hc.2.2.2.1 h.1 rfl ?_
        replace h := h.2
        refine zR_iconst (v := 3) d_Code_writeBitNumbers_55 (by decide) ?_
        refine zR_callV (Y' := Y_BitStream_give) (n := 2) (A := [.inl (m1 (c + 3) x4.toNatClampNeg), .inl 3]) (b := 3) (S := []) v_BitStream_give g_30 sh_3 cl_BitStream rfl d_Code_writeBitNumbers_56 rfl (Nat.le_of_ble_eq_true rfl) rfl (zR_cons ?_ h)
        rintro r_ m2 ⟨rfl, h⟩
        show zR κ (d + 1) Y_Code_writeBitNumbers 59 [some (.inr c), some (.inr 3), some (.inl x2), some (.inl 0), some (.inl x4)] [] m2 Q
        refine zR_iinc (v := 1) d_Code_writeBitNumbers_59 rfl (by decide) (by decide) ?_
        refine zR_iinc (v := 1) d_Code_writeBitNumbers_62 rfl (by decide) (by decide) ?_
        refine zR_goto (tgt := 7) d_Code_writeBitNumbers_65 (by decide) ?_
        exact h
      · replace h := h.2 h1
        refine zR_iinc (v := 1) d_Code_writeBitNumbers_34 rfl (by decide) (by decide) ?_
        refine zR_goto (tgt := 62) d_Code_writeBitNumbers_37 (by decide) ?_
        refine zR_iinc (v := 1) d_Code_writeBitNumbers_62 rfl (by decide) (by decide) ?_
        refine zR_goto (tgt := 7) d_Code_writeBitNumbers_65 (by decide) ?_
        exact h
theorem w_Code_writeMissing_0 {κ : zK} {d : Nat} {mem : zM} {Q : Option zV → zM → Prop} {x1 : Int32}
    (h : zR κ (d + 1) Y_Code_writeMissing 2 [some (.inr 3), some (.inl x1), some (.inl x1), none] [] mem Q) : zR κ (d + 1) Y_Code_writeMissing 0 [some (.inr 3), some (.inl x1), none, none] [] mem Q := by
  refine zR_iload_n d_Code_writeMissing_0 rfl rfl ?_
  refine zR_istore_n d_Code_writeMissing_1 rfl (by decide) ?_
  exact h
theorem w_Code_writeMissing_2 {κ : zK} {d : Nat} {mem : zM} {Q : Option zV → zM → Prop} {x1 x2 : Int32}
    (h : ((x2 < 3 → zR κ d Y_BitStream_give 0 [some (.inr 3), some (.inl 0), some (.inl (3 * x2)), none, none, none] [] mem (fun r m1 => r = none ∧ Q none m1)) ∧ (¬ x2 < 3 → zR κ d Y_BitStream_give 0 [some (.inr 3), some (.inl 7), some (.inl 3), none, none, none] [] mem (fun r m2 => r = none ∧ zR κ d Y_BitStream_give 0 [some (.inr 3), some (.inl ((if 18 < x2 then 18 else x2) - 3)), some (.inl 4), none, none, none] [] m2 (fun r m3 => r = none ∧ zR κ (d + 1) Y_Code_writeMissing 2 [some (.inr 3), some (.inl x1), some (.inl (x2 - (if 18 < x2 then 18 else x2))), none] [] m3 Q))))) : zR κ (d + 1) Y_Code_writeMissing 2 [some (.inr 3), some (.inl x1), some (.inl x2), none] [] mem Q := by
  refine zR_iload_n d_Code_writeMissing_2 rfl rfl ?_
  refine zR_iconst (v := 3) d_Code_writeMissing_3 (by decide) ?_
  refine zR_icmp_lt (tgt := 36) d_Code_writeMissing_4 (by decide) (fun h1 => ?_) (fun h1 => ?_)
  · replace h := h.1 h1
    refine zR_aload_n d_Code_writeMissing_36 rfl rfl ?_
    refine zR_iconst (v := 0) d_Code_writeMissing_37 (by decide) ?_
    refine zR_iconst (v := 3) d_Code_writeMissing_38 (by decide) ?_
    refine zR_iload_n d_Code_writeMissing_39 rfl rfl ?_
    refine zR_imul d_Code_writeMissing_40 ?_
    refine zR_callV (Y' := Y_BitStream_give) (n := 2) (A := [.inl 0, .inl (3 * x2)]) (b := 3) (S := []) v_BitStream_give g_30 sh_3 cl_BitStream rfl d_Code_writeMissing_41 rfl (Nat.le_of_ble_eq_true rfl) rfl (zR_cons ?_ h)
    rintro r_ m1 ⟨rfl, h⟩
    show zR κ (d + 1) Y_Code_writeMissing 44 [some (.inr 3), some (.inl x1), some (.inl x2), none] [] m1 Q
    exact zR_return rfl d_Code_writeMissing_44 h
  · replace h := h.2 h1
    refine zR_iload_n d_Code_writeMissing_7 rfl rfl ?_
    refine zR_bipush (v := 18) d_Code_writeMissing_8 (by decide) ?_
    refine zR_min d_Code_writeMissing_10 g_33 (Nat.le_of_ble_eq_true rfl) ?_
    refine zR_istore_n d_Code_writeMissing_13 rfl (by decide) ?_
    refine zR_aload_n d_Code_writeMissing_14 rfl rfl ?_
    refine zR_bipush (v := 7) d_Code_writeMissing_15 (by decide) ?_
    refine zR_iconst (v := 3) d_Code_writeMissing_17 (by decide) ?_
    refine zR_callV (Y' := Y_BitStream_give) (n := 2) (A := [.inl 7, .inl 3]) (b := 3) (S := []) v_BitStream_give g_30 sh_3 cl_BitStream rfl d_Code_writeMissing_18 rfl (Nat.le_of_ble_eq_true rfl) rfl (zR_cons ?_ h)
    rintro r_ m2 ⟨rfl, h⟩
    show zR κ (d + 1) Y_Code_writeMissing 21 [some (.inr 3), some (.inl x1), some (.inl x2), some (.inl (if 18 < x2 then 18 else x2))] [] m2 Q
    refine zR_aload_n d_Code_writeMissing_21 rfl rfl ?_
    refine zR_iload_n d_Code_writeMissing_22 rfl rfl ?_
    refine zR_iconst (v := 3) d_Code_writeMissing_23 (by decide) ?_
    refine zR_isub d_Code_writeMissing_24 ?_
    refine zR_iconst (v := 4) d_Code_writeMissing_25 (by decide) ?_
    refine zR_callV (Y' := Y_BitStream_give) (n := 2) (A := [.inl ((if 18 < x2 then 18 else x2) - 3), .inl 4]) (b := 3) (S := []) v_BitStream_give g_30 sh_3 cl_BitStream rfl d_Code_writeMissing_26 rfl (Nat.le_of_ble_eq_true rfl) rfl (zR_cons ?_ h)
    rintro r_ m3 ⟨rfl, h⟩
    show zR κ (d + 1) Y_Code_writeMissing 29 [some (.inr 3), some (.inl x1), some (.inl x2), some (.inl (if 18 < x2 then 18 else x2))] [] m3 Q
    refine zR_iload_n d_Code_writeMissing_29 rfl rfl ?_
    refine zR_iload_n d_Code_writeMissing_30 rfl rfl ?_
    refine zR_isub d_Code_writeMissing_31 ?_
    refine zR_istore_n d_Code_writeMissing_32 rfl (by decide) ?_
    refine zR_goto (tgt := 2) d_Code_writeMissing_33 (by decide) ?_
    refine zR_drop 3 ?_
    exact h
theorem w_Code_writeWord_0 {κ : zK} {d : Nat} {mem : zM} {Q : Option zV → zM → Prop} {c cn : Nat} {x2 : Int32} (hc : is_Code c cn)
    (h : ((x2 < 0 → Q none mem) ∧ (¬ x2 < 0 → ((x2 < (mem c 0) → vp_in x2 cn ∧ zR κ (d + 1) Y_Code_writeWord 22 [some (.inr c), some (.inr 3), some (.inl x2), some (.inl ((mem (c + 3) x2.toNatClampNeg) - 1))] [] mem Q) ∧ (¬ x2 < (mem c 0) → Q none mem))))) : zR κ (d + 1) Y_Code_writeWord 0 [some (.inr c), some (.inr 3), some (.inl x2), none] [] mem Q := by
  refine zR_iload_n d_Code_writeWord_0 rfl rfl ?_
  refine zR_if_lt (tgt := 12) d_Code_writeWord_1 (by decide) (fun h1 => ?_) (fun h1 => ?_)
  · replace h := h.1 h1
    exact zR_return rfl d_Code_writeWord_12 h
  · replace h := h.2 h1
    refine zR_iload_n d_Code_writeWord_4 rfl rfl ?_
    refine zR_aload_n d_Code_writeWord_5 rfl rfl ?_
    refine zR_getI (j := 0) d_Code_writeWord_6 hc.1 cl_Code rfl (by decide) g_18 ?_
    refine zR_icmp_lt (tgt := 13) d_Code_writeWord_9 (by decide) (fun h1 => ?_) (fun h1 => ?_)
    · replace h := h.1 h1
      refine zR_aload_n d_Code_writeWord_13 rfl rfl ?_
      refine zR_getR (j := 3) d_Code_writeWord_14 hc.1 cl_Code rfl (by decide) g_24 ?_
      refine zR_iload_n d_Code_writeWord_17 rfl rfl ?_
      refine zR_iaload d_Code_writeWord_18 hc.2.2.2.1 h.1 rfl ?_
      replace h := h.2
      refine zR_iconst (v := 1) d_Code_writeWord_19 (by decide) ?_
      refine zR_isub d_Code_writeWord_20 ?_
      refine zR_istore_n d_Code_writeWord_21 rfl (by decide) ?_
      exact h
    · replace h := h.2 h1
      exact zR_return rfl d_Code_writeWord_12 h
theorem w_Code_writeWord_22 {κ : zK} {d : Nat} {mem : zM} {Q : Option zV → zM → Prop} {c cn : Nat} {x2 x3 : Int32} (hc : is_Code c cn)
    (h : ((x3 < 0 → Q none mem) ∧ (¬ x3 < 0 → vp_in x2 cn ∧ zR κ d Y_BitStream_give 0 [some (.inr 3), some (.inl ((mem (c + 4) x2.toNatClampNeg) >>> (x3 &&& 31))), some (.inl 1), none, none, none] [] mem (fun r m1 => r = none ∧ zR κ (d + 1) Y_Code_writeWord 22 [some (.inr c), some (.inr 3), some (.inl x2), some (.inl (x3 + (-1)))] [] m1 Q)))) : zR κ (d + 1) Y_Code_writeWord 22 [some (.inr c), some (.inr 3), some (.inl x2), some (.inl x3)] [] mem Q := by
  refine zR_iload_n d_Code_writeWord_22 rfl rfl ?_
  refine zR_if_lt (tgt := 45) d_Code_writeWord_23 (by decide) (fun h1 => ?_) (fun h1 => ?_)
  · replace h := h.1 h1
    exact zR_return rfl d_Code_writeWord_45 h
  · replace h := h.2 h1
    refine zR_aload_n d_Code_writeWord_26 rfl rfl ?_
    refine zR_aload_n d_Code_writeWord_27 rfl rfl ?_
    refine zR_getR (j := 4) d_Code_writeWord_28 hc.1 cl_Code rfl (by decide) g_25 ?_
    refine zR_iload_n d_Code_writeWord_31 rfl rfl ?_
    refine zR_iaload d_Code_writeWord_32 hc.2.2.2.2 h.1 rfl ?_
    replace h := h.2
    refine zR_iload_n d_Code_writeWord_33 rfl rfl ?_
    refine zR_ishr d_Code_writeWord_34 rfl ?_
    refine zR_iconst (v := 1) d_Code_writeWord_35 (by decide) ?_
    refine zR_callV (Y' := Y_BitStream_give) (n := 2) (A := [.inl ((mem (c + 4) x2.toNatClampNeg) >>> (x3 &&& 31)), .inl 1]) (b := 3) (S := []) v_BitStream_give g_30 sh_3 cl_BitStream rfl d_Code_writeWord_36 rfl (Nat.le_of_ble_eq_true rfl) rfl (zR_cons ?_ h)
    rintro r_ m1 ⟨rfl, h⟩
    show zR κ (d + 1) Y_Code_writeWord 39 [some (.inr c), some (.inr 3), some (.inl x2), some (.inl x3)] [] m1 Q
    refine zR_iinc (v := (-1)) d_Code_writeWord_39 rfl (by decide) (by decide) ?_
    refine zR_goto (tgt := 22) d_Code_writeWord_42 (by decide) ?_
    exact h
theorem w_Code_simpleBits_0 {κ : zK} {d : Nat} {mem : zM} {Q : Option zV → zM → Prop} {x0 x1 : Int32}
    (h : ((¬ x0 = 3 → Q (some (.inl (x0 >>> (1 : Int32)))) mem) ∧ (x0 = 3 → ((x1 = 0 → Q (some (.inl 2)) mem) ∧ (¬ x1 = 0 → Q (some (.inl 1)) mem))))) : zR κ d Y_Code_simpleBits 0 [some (.inl x0), some (.inl x1)] [] mem Q := by
  refine zR_iload_n d_Code_simpleBits_0 rfl rfl ?_
  refine zR_iconst (v := 3) d_Code_simpleBits_1 (by decide) ?_
  refine zR_icmp_ne (tgt := 15) d_Code_simpleBits_2 (by decide) (fun h1 => ?_) (fun h1 => ?_)
  · replace h := h.1 h1
    refine zR_iload_n d_Code_simpleBits_15 rfl rfl ?_
    refine zR_iconst (v := 1) d_Code_simpleBits_16 (by decide) ?_
    refine zR_ishr (z := 1) d_Code_simpleBits_17 (by decide) ?_
    exact zR_ireturn rfl d_Code_simpleBits_18 h
  · replace h := h.2 h1
    refine zR_iload_n d_Code_simpleBits_5 rfl rfl ?_
    refine zR_if_eq (tgt := 13) d_Code_simpleBits_6 (by decide) (fun h1 => ?_) (fun h1 => ?_)
    · replace h := h.1 h1
      refine zR_iconst (v := 2) d_Code_simpleBits_13 (by decide) ?_
      exact zR_ireturn rfl d_Code_simpleBits_14 h
    · replace h := h.2 h1
      refine zR_iconst (v := 1) d_Code_simpleBits_9 (by decide) ?_
      refine zR_goto (tgt := 14) d_Code_simpleBits_10 (by decide) ?_
      exact zR_ireturn rfl d_Code_simpleBits_14 h
theorem w_Code_forgetListed_0 {κ : zK} {d : Nat} {mem : zM} {Q : Option zV → zM → Prop} {c cn : Nat} (hc : is_Code c cn)
    (h : zR κ d Y_Code_forgetListed 2 [some (.inr c), some (.inl 0)] [] mem Q) : zR κ d Y_Code_forgetListed 0 [some (.inr c), none] [] mem Q := by
  refine zR_iconst (v := 0) d_Code_forgetListed_0 (by decide) ?_
  refine zR_istore_n d_Code_forgetListed_1 rfl (by decide) ?_
  exact h
theorem w_Code_forgetListed_2 {κ : zK} {d : Nat} {mem : zM} {Q : Option zV → zM → Prop} {c cn : Nat} {x1 : Int32} (hc : is_Code c cn)
    (h : (((mem c 6) ≤ x1 → Q none (zms mem c 6 0)) ∧ (¬ (mem c 6) ≤ x1 → vp_in x1 64 ∧ vp_in (mem (c + 1) x1.toNatClampNeg) cn ∧ zR κ d Y_Code_forgetListed 2 [some (.inr c), some (.inl (x1 + 1))] [] (zms mem (c + 3) (mem (c + 1) x1.toNatClampNeg).toNatClampNeg 0) Q))) : zR κ d Y_Code_forgetListed 2 [some (.inr c), some (.inl x1)] [] mem Q := by
  refine zR_iload_n d_Code_forgetListed_2 rfl rfl ?_
  refine zR_aload_n d_Code_forgetListed_3 rfl rfl ?_
  refine zR_getI (j := 6) d_Code_forgetListed_4 hc.1 cl_Code rfl (by decide) g_22 ?_
  refine zR_icmp_ge (tgt := 28) d_Code_forgetListed_7 (by decide) (fun h1 => ?_) (fun h1 => ?_)
  · replace h := h.1 h1
    refine zR_aload_n d_Code_forgetListed_28 rfl rfl ?_
    refine zR_iconst (v := 0) d_Code_forgetListed_29 (by decide) ?_
    refine zR_put (j := 6) (ty := .int) d_Code_forgetListed_30 hc.1 cl_Code rfl (by decide) rfl (by decide +kernel) g_22 (zint _) ?_
    exact zR_return rfl d_Code_forgetListed_33 h
  · replace h := h.2 h1
    refine zR_aload_n d_Code_forgetListed_10 rfl rfl ?_
    refine zR_getR (j := 3) d_Code_forgetListed_11 hc.1 cl_Code rfl (by decide) g_24 ?_
    refine zR_aload_n d_Code_forgetListed_14 rfl rfl ?_
    refine zR_getR (j := 5) d_Code_forgetListed_15 hc.1 cl_Code rfl (by decide) g_23 ?_
    refine zR_iload_n d_Code_forgetListed_18 rfl rfl ?_
    refine zR_iaload d_Code_forgetListed_19 hc.2.1 h.1 rfl ?_
    replace h := h.2
    refine zR_iconst (v := 0) d_Code_forgetListed_20 (by decide) ?_
    refine zR_iastore d_Code_forgetListed_21 hc.2.2.2.1 h.1 rfl ?_
    replace h := h.2
    refine zR_iinc (v := 1) d_Code_forgetListed_22 rfl (by decide) (by decide) ?_
    refine zR_goto (tgt := 2) d_Code_forgetListed_25 (by decide) ?_
    exact h
theorem w_Code_list_0 {κ : zK} {d : Nat} {mem : zM} {Q : Option zV → zM → Prop} {c cn : Nat} {x1 x2 : Int32} (hc : is_Code c cn)
    (h : ((64 ≤ (mem c 6) → Q none mem) ∧ (¬ 64 ≤ (mem c 6) → vp_in (mem c 6) 64 ∧ vp_in x1 cn ∧ Q none (zms (zms (zms mem (c + 1) (mem c 6).toNatClampNeg x1) c 6 (((zms mem (c + 1) (mem c 6).toNatClampNeg x1) c 6) + 1)) (c + 3) x1.toNatClampNeg x2)))) : zR κ d Y_Code_list 0 [some (.inr c), some (.inl x1), some (.inl x2)] [] mem Q := by
  refine zR_aload_n d_Code_list_0 rfl rfl ?_
  refine zR_getI (j := 6) d_Code_list_1 hc.1 cl_Code rfl (by decide) g_22 ?_
  refine zR_bipush (v := 64) d_Code_list_4 (by decide) ?_
  refine zR_icmp_ge (tgt := 36) d_Code_list_6 (by decide) (fun h1 => ?_) (fun h1 => ?_)
  · replace h := h.1 h1
    exact zR_return rfl d_Code_list_36 h
  · replace h := h.2 h1
    refine zR_aload_n d_Code_list_9 rfl rfl ?_
    refine zR_getR (j := 5) d_Code_list_10 hc.1 cl_Code rfl (by decide) g_23 ?_
    refine zR_aload_n d_Code_list_13 rfl rfl ?_
    refine zR_getI (j := 6) d_Code_list_14 hc.1 cl_Code rfl (by decide) g_22 ?_
    refine zR_iload_n d_Code_list_17 rfl rfl ?_
    refine zR_iastore d_Code_list_18 hc.2.1 h.1 rfl ?_
    replace h := h.2
    refine zR_aload_n d_Code_list_19 rfl rfl ?_
    refine zR_dup d_Code_list_20 ?_
    refine zR_getI (j := 6) d_Code_list_21 hc.1 cl_Code rfl (by decide) g_22 ?_
    refine zR_iconst (v := 1) d_Code_list_24 (by decide) ?_
    refine zR_iadd d_Code_list_25 ?_
    refine zR_put (j := 6) (ty := .int) d_Code_list_26 hc.1 cl_Code rfl (by decide) rfl (by decide +kernel) g_22 (zint _) ?_
    refine zR_aload_n d_Code_list_29 rfl rfl ?_
    refine zR_getR (j := 3) d_Code_list_30 hc.1 cl_Code rfl (by decide) g_24 ?_
    refine zR_iload_n d_Code_list_33 rfl rfl ?_
    refine zR_iload_n d_Code_list_34 rfl rfl ?_
    refine zR_iastore d_Code_list_35 hc.2.2.2.1 h.1 rfl ?_
    replace h := h.2
    exact zR_return rfl d_Code_list_36 h
theorem w_Code_isListed_0 {κ : zK} {d : Nat} {mem : zM} {Q : Option zV → zM → Prop} {c cn : Nat} {x1 : Int32} (hc : is_Code c cn)
    (h : zR κ d Y_Code_isListed 2 [some (.inr c), some (.inl x1), some (.inl 0)] [] mem Q) : zR κ d Y_Code_isListed 0 [some (.inr c), some (.inl x1), none] [] mem Q := by
  refine zR_iconst (v := 0) d_Code_isListed_0 (by decide) ?_
  refine zR_istore_n d_Code_isListed_1 rfl (by decide) ?_
  exact h
theorem w_Code_isListed_2 {κ : zK} {d : Nat} {mem : zM} {Q : Option zV → zM → Prop} {c cn : Nat} {x1 x2 : Int32} (hc : is_Code c cn)
    (h : (((mem c 6) ≤ x2 → Q (some (.inl 0)) mem) ∧ (¬ (mem c 6) ≤ x2 → vp_in x2 64 ∧ ((¬ (mem (c + 1) x2.toNatClampNeg) = x1 → zR κ d Y_Code_isListed 2 [some (.inr c), some (.inl x1), some (.inl (x2 + 1))] [] mem Q) ∧ ((mem (c + 1) x2.toNatClampNeg) = x1 → Q (some (.inl 1)) mem))))) : zR κ d Y_Code_isListed 2 [some (.inr c), some (.inl x1), some (.inl x2)] [] mem Q := by
  refine zR_iload_n d_Code_isListed_2 rfl rfl ?_
  refine zR_aload_n d_Code_isListed_3 rfl rfl ?_
  refine zR_getI (j := 6) d_Code_isListed_4 hc.1 cl_Code rfl (by decide) g_22 ?_
  refine zR_icmp_ge (tgt := 28) d_Code_isListed_7 (by decide) (fun h1 => ?_) (fun h1 => ?_)
  · replace h := h.1 h1
    refine zR_iconst (v := 0) d_Code_isListed_28 (by decide) ?_
    exact zR_zreturn rfl d_Code_isListed_29 (Or.inl rfl) h
  · replace h := h.2 h1
    refine zR_aload_n d_Code_isListed_10 rfl rfl ?_
    refine zR_getR (j := 5) d_Code_isListed_11 hc.1 cl_Code rfl (by decide) g_23 ?_
    refine zR_iload_n d_Code_isListed_14 rfl rfl ?_
    refine zR_iaload d_Code_isListed_15 hc.2.1 h.1 rfl ?_
    replace h := h.2
    refine zR_iload_n d_Code_isListed_16 rfl rfl ?_
    refine zR_icmp_ne (tgt := 22) d_Code_isListed_17 (by decide) (fun h1 => ?_) (fun h1 => ?_)
    · replace h := h.1 h1
      refine zR_iinc (v := 1) d_Code_isListed_22 rfl (by decide) (by decide) ?_
      refine zR_goto (tgt := 2) d_Code_isListed_25 (by decide) ?_
      exact h
    · replace h := h.2 h1
      refine zR_iconst (v := 1) d_Code_isListed_20 (by decide) ?_
      exact zR_zreturn rfl d_Code_isListed_21 (Or.inr rfl) h
theorem w_Code_sortListed_0 {κ : zK} {d : Nat} {mem : zM} {Q : Option zV → zM → Prop} {c cn : Nat} (hc : is_Code c cn)
    (h : zR κ d Y_Code_sortListed 2 [some (.inr c), some (.inl 1), none, none, none] [] mem Q) : zR κ d Y_Code_sortListed 0 [some (.inr c), none, none, none, none] [] mem Q := by
  refine zR_iconst (v := 1) d_Code_sortListed_0 (by decide) ?_
  refine zR_istore_n d_Code_sortListed_1 rfl (by decide) ?_
  exact h
theorem w_Code_sortListed_2 {κ : zK} {d : Nat} {mem : zM} {Q : Option zV → zM → Prop} {c cn : Nat} {x1 : Int32} (hc : is_Code c cn)
    (h : (((mem c 6) ≤ x1 → Q none mem) ∧ (¬ (mem c 6) ≤ x1 → vp_in x1 64 ∧ vp_in (mem (c + 1) x1.toNatClampNeg) cn ∧ zR κ d Y_Code_sortListed 33 [some (.inr c), some (.inl x1), some (.inl (mem (c + 1) x1.toNatClampNeg)), some (.inl (((mem (c + 3) (mem (c + 1) x1.toNatClampNeg).toNatClampNeg) * 256) + (mem (c + 1) x1.toNatClampNeg))), some (.inl x1)] [] mem Q))) : zR κ d Y_Code_sortListed 2 [some (.inr c), some (.inl x1), none, none, none] [] mem Q := by
  refine zR_iload_n d_Code_sortListed_2 rfl rfl ?_
  refine zR_aload_n d_Code_sortListed_3 rfl rfl ?_
  refine zR_getI (j := 6) d_Code_sortListed_4 hc.1 cl_Code rfl (by decide) g_22 ?_
  refine zR_icmp_ge (tgt := 106) d_Code_sortListed_7 (by decide) (fun h1 => ?_) (fun h1 => ?_)
  · replace h := h.1 h1
    exact zR_return rfl d_Code_sortListed_106 h
  · replace h := h.2 h1
    refine zR_aload_n d_Code_sortListed_10 rfl rfl ?_
    refine zR_getR (j := 5) d_Code_sortListed_11 hc.1 cl_Code rfl (by decide) g_23 ?_
    refine zR_iload_n d_Code_sortListed_14 rfl rfl ?_
    refine zR_iaload d_Code_sortListed_15 hc.2.1 h.1 rfl ?_
    replace h := h.2
    refine zR_istore_n d_Code_sortListed_16 rfl (by decide) ?_
    refine zR_aload_n d_Code_sortListed_17 rfl rfl ?_
    refine zR_getR (j := 3) d_Code_sortListed_18 hc.1 cl_Code rfl (by decide) g_24 ?_
    refine zR_iload_n d_Code_sortListed_21 rfl rfl ?_
    refine zR_iaload d_Code_sortListed_22 hc.2.2.2.1 h.1 rfl ?_
    replace h := h.2
    refine zR_sipush (v := 256) d_Code_sortListed_23 (by decide) ?_
    refine zR_imul d_Code_sortListed_26 ?_
    refine zR_iload_n d_Code_sortListed_27 rfl rfl ?_
    refine zR_iadd d_Code_sortListed_28 ?_
    refine zR_istore_n d_Code_sortListed_29 rfl (by decide) ?_
    refine zR_iload_n d_Code_sortListed_30 rfl rfl ?_
    refine zR_istore d_Code_sortListed_31 (by decide) ?_
    exact h
theorem w_Code_sortListed_33 {κ : zK} {d : Nat} {mem : zM} {Q : Option zV → zM → Prop} {c cn : Nat} {x1 x2 x3 x4 : Int32} (hc : is_Code c cn)
    (h : ((x4 ≤ 0 → vp_in x4 64 ∧ zR κ d Y_Code_sortListed 2 [some (.inr c), some (.inl (x1 + 1)), none, none, none] [] (zms mem (c + 1) x4.toNatClampNeg x2) Q) ∧ (¬ x4 ≤ 0 → vp_in (x4 - 1) 64 ∧ vp_in (mem (c + 1) (x4 - 1).toNatClampNeg) cn ∧ vp_in (x4 - 1) 64 ∧ (((((mem (c + 3) (mem (c + 1) (x4 - 1).toNatClampNeg).toNatClampNeg) * 256) + (mem (c + 1) (x4 - 1).toNatClampNeg)) ≤ x3 → vp_in x4 64 ∧ zR κ d Y_Code_sortListed 2 [some (.inr c), some (.inl (x1 + 1)), none, none, none] [] (zms mem (c + 1) x4.toNatClampNeg x2) Q) ∧ (¬ (((mem (c + 3) (mem (c + 1) (x4 - 1).toNatClampNeg).toNatClampNeg) * 256) + (mem (c + 1) (x4 - 1).toNatClampNeg)) ≤ x3 → vp_in (x4 - 1) 64 ∧ vp_in x4 64 ∧ zR κ d Y_Code_sortListed 33 [some (.inr c), some (.inl x1), some (.inl x2), some (.inl x3), some (.inl (x4 + (-1)))] [] (zms mem (c + 1) x4.toNatClampNeg (mem (c + 1) (x4 - 1).toNatClampNeg)) Q))))) : zR κ d Y_Code_sortListed 33 [some (.inr c), some (.inl x1), some (.inl x2), some (.inl x3), some (.inl x4)] [] mem Q := by
  refine zR_iload d_Code_sortListed_33 rfl ?_
  refine zR_if_le (tgt := 92) d_Code_sortListed_35 (by decide) (fun h1 => ?_) (fun h1 => ?_)
  · replace h := h.1 h1
    refine zR_aload_n d_Code_sortListed_92 rfl rfl ?_
    refine zR_getR (j := 5) d_Code_sortListed_93 hc.1 cl_Code rfl (by decide) g_23 ?_
    refine zR_iload d_Code_sortListed_96 rfl ?_
    refine zR_iload_n d_Code_sortListed_98 rfl rfl ?_
    refine zR_iastore d_Code_sortListed_99 hc.2.1 h.1 rfl ?_
    replace h := h.2
    refine zR_iinc (v := 1) d_Code_sortListed_100 rfl (by decide) (by decide) ?_
    refine zR_goto (tgt := 2) d_Code_sortListed_103 (by decide) ?_
    refine zR_drop 2 ?_
    refine zR_drop 3 ?_
    refine zR_drop 4 ?_
    exact h
  · replace h := h.2 h1
    refine zR_aload_n d_Code_sortListed_38 rfl rfl ?_
    refine zR_getR (j := 3) d_Code_sortListed_39 hc.1 cl_Code rfl (by decide) g_24 ?_
    refine zR_aload_n d_Code_sortListed_42 rfl rfl ?_
    refine zR_getR (j := 5) d_Code_sortListed_43 hc.1 cl_Code rfl (by decide) g_23 ?_
    refine zR_iload d_Code_sortListed_46 rfl ?_
    refine zR_iconst (v := 1) d_Code_sortListed_48 (by decide) ?_
    refine zR_isub d_Code_sortListed_49 ?_
    refine zR_iaload d_Code_sortListed_50 hc.2.1 h.1 rfl ?_
    replace h := h.2
    refine zR_iaload d_Code_sortListed_51 hc.2.2.2.1 h.1 rfl ?_
    replace h := h.2
    refine zR_sipush (v := 256) d_Code_sortListed_52 (by decide) ?_
    refine zR_imul d_Code_sortListed_55 ?_
    refine zR_aload_n d_Code_sortListed_56 rfl rfl ?_
    refine zR_getR (j := 5) d_Code_sortListed_57 hc.1 cl_Code rfl (by decide) g_23 ?_
    refine zR_iload d_Code_sortListed_60 rfl ?_
    refine zR_iconst (v := 1) d_Code_sortListed_62 (by decide) ?_
    refine zR_isub d_Code_sortListed_63 ?_
    refine zR_iaload d_Code_sortListed_64 hc.2.1 h.1 rfl ?_
    replace h := h.2
    refine zR_iadd d_Code_sortListed_65 ?_
    refine zR_iload_n d_Code_sortListed_66 rfl rfl ?_
    refine zR_icmp_le (tgt := 92) d_Code_sortListed_67 (by decide) (fun h1 => ?_) (fun h1 => ?_)
    · replace h := h.1 h1
      refine zR_aload_n d_Code_sortListed_92 rfl rfl ?_
      refine zR_getR (j := 5) d_Code_sortListed_93 hc.1 cl_Code rfl (by decide) g_23 ?_
      refine zR_iload d_Code_sortListed_96 rfl ?_
      refine zR_iload_n d_Code_sortListed_98 rfl rfl ?_
      refine zR_iastore d_Code_sortListed_99 hc.2.1 h.1 rfl ?_
      replace h := h.2
      refine zR_iinc (v := 1) d_Code_sortListed_100 rfl (by decide) (by decide) ?_
      refine zR_goto (tgt := 2) d_Code_sortListed_103 (by decide) ?_
      refine zR_drop 2 ?_
      refine zR_drop 3 ?_
      refine zR_drop 4 ?_
      exact h
    · replace h := h.2 h1
      refine zR_aload_n d_Code_sortListed_70 rfl rfl ?_
      refine zR_getR (j := 5) d_Code_sortListed_71 hc.1 cl_Code rfl (by decide) g_23 ?_
      refine zR_iload d_Code_sortListed_74 rfl ?_
      refine zR_aload_n d_Code_sortListed_76 rfl rfl ?_
      refine zR_getR (j := 5) d_Code_sortListed_77 hc.1 cl_Code rfl (by decide) g_23 ?_
      refine zR_iload d_Code_sortListed_80 rfl ?_
      refine zR_iconst (v := 1) d_Code_sortListed_82 (by decide) ?_
      refine zR_isub d_Code_sortListed_83 ?_
      refine zR_iaload d_Code_sortListed_84 hc.2.1 h.1 rfl ?_
      replace h := h.2
      refine zR_iastore d_Code_sortListed_85 hc.2.1 h.1 rfl ?_
      replace h := h.2
      refine zR_iinc (v := (-1)) d_Code_sortListed_86 rfl (by decide) (by decide) ?_
      refine zR_goto (tgt := 33) d_Code_sortListed_89 (by decide) ?_
      exact h
theorem w_Code_giveCodeWords_0 {κ : zK} {d : Nat} {mem : zM} {Q : Option zV → zM → Prop} {c cn : Nat} (hc : is_Code c cn)
    (h : zR κ d Y_Code_giveCodeWords 4 [some (.inr c), some (.inl 0), some (.inl 0)] [] mem Q) : zR κ d Y_Code_giveCodeWords 0 [some (.inr c), none, none] [] mem Q := by
  refine zR_iconst (v := 0) d_Code_giveCodeWords_0 (by decide) ?_
  refine zR_istore_n d_Code_giveCodeWords_1 rfl (by decide) ?_
  refine zR_iconst (v := 0) d_Code_giveCodeWords_2 (by decide) ?_
  refine zR_istore_n d_Code_giveCodeWords_3 rfl (by decide) ?_
  exact h
theorem w_Code_giveCodeWords_4 {κ : zK} {d : Nat} {mem : zM} {Q : Option zV → zM → Prop} {c cn : Nat} {x1 x2 : Int32} (hc : is_Code c cn)
    (h : (((mem c 6) ≤ x2 → Q none mem) ∧ (¬ (mem c 6) ≤ x2 → ((x2 ≤ 0 → zR κ d Y_Code_giveCodeWords 46 [some (.inr c), some (.inl x1), some (.inl x2)] [] mem Q) ∧ (¬ x2 ≤ 0 → vp_in x2 64 ∧ vp_in (mem (c + 1) x2.toNatClampNeg) cn ∧ vp_in (x2 - 1) 64 ∧ vp_in (mem (c + 1) (x2 - 1).toNatClampNeg) cn ∧ zR κ d Y_Code_giveCodeWords 46 [some (.inr c), some (.inl ((x1 + 1) <<< (((mem (c + 3) (mem (c + 1) x2.toNatClampNeg).toNatClampNeg) - (mem (c + 3) (mem (c + 1) (x2 - 1).toNatClampNeg).toNatClampNeg)) &&& 31))), some (.inl x2)] [] mem Q))))) : zR κ d Y_Code_giveCodeWords 4 [some (.inr c), some (.inl x1), some (.inl x2)] [] mem Q := by
  refine zR_iload_n d_Code_giveCodeWords_4 rfl rfl ?_
  refine zR_aload_n d_Code_giveCodeWords_5 rfl rfl ?_
  refine zR_getI (j := 6) d_Code_giveCodeWords_6 hc.1 cl_Code rfl (by decide) g_22 ?_
  refine zR_icmp_ge (tgt := 64) d_Code_giveCodeWords_9 (by decide) (fun h1 => ?_) (fun h1 => ?_)
  · replace h := h.1 h1
    exact zR_return rfl d_Code_giveCodeWords_64 h
  · replace h := h.2 h1
    refine zR_iload_n d_Code_giveCodeWords_12 rfl rfl ?_
    refine zR_if_le (tgt := 46) d_Code_giveCodeWords_13 (by decide) (fun h1 => ?_) (fun h1 => ?_)
    · replace h := h.1 h1
      exact h
    · replace h := h.2 h1
      refine zR_iload_n d_Code_giveCodeWords_16 rfl rfl ?_
      refine zR_iconst (v := 1) d_Code_giveCodeWords_17 (by decide) ?_
      refine zR_iadd d_Code_giveCodeWords_18 ?_
      refine zR_aload_n d_Code_giveCodeWords_19 rfl rfl ?_
      refine zR_getR (j := 3) d_Code_giveCodeWords_20 hc.1 cl_Code rfl (by decide) g_24 ?_
      refine zR_aload_n d_Code_giveCodeWords_23 rfl rfl ?_
      refine zR_getR (j := 5) d_Code_giveCodeWords_24 hc.1 cl_Code rfl (by decide) g_23 ?_
      refine zR_iload_n d_Code_giveCodeWords_27 rfl rfl ?_
      refine zR_iaload d_Code_giveCodeWords_28 hc.2.1 h.1 rfl ?_
      replace h := h.2
      refine zR_iaload d_Code_giveCodeWords_29 hc.2.2.2.1 h.1 rfl ?_
      replace h := h.2
      refine zR_aload_n d_Code_giveCodeWords_30 rfl rfl ?_
      refine zR_getR (j := 3) d_Code_giveCodeWords_31 hc.1 cl_Code rfl (by decide) g_24 ?_
      refine zR_aload_n d_Code_giveCodeWords_34 rfl rfl ?_
      refine zR_getR (j := 5) d_Code_giveCodeWords_35 hc.1 cl_Code rfl (by decide) g_23 ?_
      refine zR_iload_n d_Code_giveCodeWords_38 rfl rfl ?_
      refine zR_iconst (v := 1) d_Code_giveCodeWords_39 (by decide) ?_
      refine zR_isub d_Code_giveCodeWords_40 ?_
      refine zR_iaload d_Code_giveCodeWords_41 hc.2.1 h.1 rfl ?_
      replace h := h.2
      refine zR_iaload d_Code_giveCodeWords_42 hc.2.2.2.1 h.1 rfl ?_
      replace h := h.2
      refine zR_isub d_Code_giveCodeWords_43 ?_
      refine zR_ishl d_Code_giveCodeWords_44 rfl ?_
      refine zR_istore_n d_Code_giveCodeWords_45 rfl (by decide) ?_
      exact h
theorem w_Code_giveCodeWords_46 {κ : zK} {d : Nat} {mem : zM} {Q : Option zV → zM → Prop} {c cn : Nat} {x1 x2 : Int32} (hc : is_Code c cn)
    (h : vp_in x2 64 ∧ vp_in (mem (c + 1) x2.toNatClampNeg) cn ∧ zR κ d Y_Code_giveCodeWords 4 [some (.inr c), some (.inl x1), some (.inl (x2 + 1))] [] (zms mem (c + 4) (mem (c + 1) x2.toNatClampNeg).toNatClampNeg x1) Q) : zR κ d Y_Code_giveCodeWords 46 [some (.inr c), some (.inl x1), some (.inl x2)] [] mem Q := by
  refine zR_aload_n d_Code_giveCodeWords_46 rfl rfl ?_
  refine zR_getR (j := 4) d_Code_giveCodeWords_47 hc.1 cl_Code rfl (by decide) g_25 ?_
  refine zR_aload_n d_Code_giveCodeWords_50 rfl rfl ?_
  refine zR_getR (j := 5) d_Code_giveCodeWords_51 hc.1 cl_Code rfl (by decide) g_23 ?_
  refine zR_iload_n d_Code_giveCodeWords_54 rfl rfl ?_
  refine zR_iaload d_Code_giveCodeWords_55 hc.2.1 h.1 rfl ?_
  replace h := h.2
  refine zR_iload_n d_Code_giveCodeWords_56 rfl rfl ?_
  refine zR_iastore d_Code_giveCodeWords_57 hc.2.2.2.2 h.1 rfl ?_
  replace h := h.2
  refine zR_iinc (v := 1) d_Code_giveCodeWords_58 rfl (by decide) (by decide) ?_
  refine zR_goto (tgt := 4) d_Code_giveCodeWords_61 (by decide) ?_
  exact h
