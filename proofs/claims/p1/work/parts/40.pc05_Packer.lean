/-! pieces of RingPacker$Packer -/
theorem w_Packer_start_0 {κ : zK} {d : Nat} {mem : zM} {Q : Option zV → zM → Prop}
    (h : zR κ d Y_Counts_reset 0 [some (.inr 7)] [] mem (fun r m1 => r = none ∧ zR κ d Y_Ring_reset 0 [some (.inr 8), none] [] m1 (fun r m2 => r = none ∧ Q none m2))) : zR κ (d + 1) Y_Packer_start 0 [some (.inr 6)] [] mem Q := by
  refine zR_aload_n d_Packer_start_0 rfl rfl ?_
  refine zR_getR (j := 0) d_Packer_start_1 sh_6 cl_Packer rfl (by decide) g_58 ?_
  refine zR_callV (Y' := Y_Counts_reset) (n := 0) (A := []) (b := 7) (S := []) v_Counts_reset g_59 sh_7 cl_Counts rfl d_Packer_start_4 rfl (Nat.le_of_ble_eq_true rfl) rfl (zR_cons ?_ h)
  rintro r_ m1 ⟨rfl, h⟩
  show zR κ (d + 1) Y_Packer_start 7 [some (.inr 6)] [] m1 Q
  refine zR_aload_n d_Packer_start_7 rfl rfl ?_
  refine zR_getR (j := 1) d_Packer_start_8 sh_6 cl_Packer rfl (by decide) g_60 ?_
  refine zR_callV (Y' := Y_Ring_reset) (n := 0) (A := []) (b := 8) (S := []) v_Ring_reset g_61 sh_8 cl_Ring rfl d_Packer_start_11 rfl (Nat.le_of_ble_eq_true rfl) rfl (zR_cons ?_ h)
  rintro r_ m2 ⟨rfl, h⟩
  show zR κ (d + 1) Y_Packer_start 14 [some (.inr 6)] [] m2 Q
  exact zR_return rfl d_Packer_start_14 h
theorem w_Packer_writeBlock_0 {κ : zK} {d : Nat} {mem : zM} {Q : Option zV → zM → Prop} {c : Nat} {x3 : Int32} (hc : is_Text c)
    (h : zR κ d Y_Plan_parse 0 [some (.inr 31), some (.inr c), some (.inl x3), some (.inl (if (mem c 1) < (x3 + 48) then (mem c 1) else (x3 + 48))), some (.inr 8), none, none, none] [] mem (fun r m1 => r = none ∧ zR κ (d + 1) Y_Packer_writeBlock 43 [some (.inr 6), some (.inr c), some (.inr 3), some (.inl x3), some (.inl (if (mem c 1) < (x3 + 48) then (mem c 1) else (x3 + 48))), some (.inl (m1 3 2)), some (.inl 0), some (.inl 0), some (.inl 0)] [] m1 Q)) : zR κ (d + 1) Y_Packer_writeBlock 0 [some (.inr 6), some (.inr c), some (.inr 3), some (.inl x3), none, none, none, none, none] [] mem Q := by
  refine zR_iload_n d_Packer_writeBlock_0 rfl rfl ?_
  refine zR_bipush (v := 48) d_Packer_writeBlock_1 (by decide) ?_
  refine zR_iadd d_Packer_writeBlock_3 ?_
  refine zR_aload_n d_Packer_writeBlock_4 rfl rfl ?_
  refine zR_getIN (j := 1) d_Packer_writeBlock_5 hc.1 cl_Text rfl (by decide) n_62 ?_
  refine zR_min d_Packer_writeBlock_8 g_63 (Nat.le_of_ble_eq_true rfl) ?_
  refine zR_istore d_Packer_writeBlock_11 (by decide) ?_
  refine zR_aload_n d_Packer_writeBlock_13 rfl rfl ?_
  refine zR_getR (j := 3) d_Packer_writeBlock_14 sh_6 cl_Packer rfl (by decide) g_64 ?_
  refine zR_aload_n d_Packer_writeBlock_17 rfl rfl ?_
  refine zR_iload_n d_Packer_writeBlock_18 rfl rfl ?_
  refine zR_iload d_Packer_writeBlock_19 rfl ?_
  refine zR_aload_n d_Packer_writeBlock_21 rfl rfl ?_
  refine zR_getR (j := 1) d_Packer_writeBlock_22 sh_6 cl_Packer rfl (by decide) g_60 ?_
  refine zR_callV (Y' := Y_Plan_parse) (n := 4) (A := [.inr c, .inl x3, .inl (if (mem c 1) < (x3 + 48) then (mem c 1) else (x3 + 48)), .inr 8]) (b := 31) (S := []) v_Plan_parse g_65 sh_31 cl_Plan rfl d_Packer_writeBlock_25 rfl (Nat.le_of_ble_eq_true rfl) rfl (zR_cons ?_ h)
  rintro r_ m1 ⟨rfl, h⟩
  show zR κ (d + 1) Y_Packer_writeBlock 28 [some (.inr 6), some (.inr c), some (.inr 3), some (.inl x3), some (.inl (if (mem c 1) < (x3 + 48) then (mem c 1) else (x3 + 48))), none, none, none, none] [] m1 Q
  refine zR_aload_n d_Packer_writeBlock_28 rfl rfl ?_
  refine zR_getIN (j := 2) d_Packer_writeBlock_29 sh_3 cl_BitStream rfl (by decide) n_66 ?_
  refine zR_istore d_Packer_writeBlock_32 (by decide) ?_
  refine zR_iconst (v := 0) d_Packer_writeBlock_34 (by decide) ?_
  refine zR_istore d_Packer_writeBlock_35 (by decide) ?_
  refine zR_iconst (v := 0) d_Packer_writeBlock_37 (by decide) ?_
  refine zR_istore d_Packer_writeBlock_38 (by decide) ?_
  refine zR_iconst (v := 0) d_Packer_writeBlock_40 (by decide) ?_
  refine zR_istore d_Packer_writeBlock_41 (by decide) ?_
  exact h
theorem w_Packer_writeBlock_43 {κ : zK} {d : Nat} {mem : zM} {Q : Option zV → zM → Prop} {c : Nat} {x3 x4 x5 x6 x7 x8 : Int32} (hc : is_Text c)
    (h : ((2 < x8 → zR κ d Y_BitStream_goBackTo 0 [some (.inr 3), some (.inl x5)] [] mem (fun r m1 => r = none ∧ zR κ d Y_Packer_writeInWay 0 [some (.inr 6), some (.inl x6), some (.inr c), some (.inr 3), some (.inl x3), some (.inl x4), none, none, none] [] m1 (fun r m2 => r = none ∧ ((x6 = 0 → Q none m2) ∧ (¬ x6 = 0 → zR κ d Y_Ring_become 0 [some (.inr 8), some (.inr 33)] [] m2 (fun r m3 => r = none ∧ zR κ d Y_Counts_addBlock 0 [some (.inr 7), some (.inr 31)] [] m3 (fun r m4 => r = none ∧ Q none m4))))))) ∧ (¬ 2 < x8 → zR κ d Y_BitStream_goBackTo 0 [some (.inr 3), some (.inl x5)] [] mem (fun r m5 => r = none ∧ zR κ d Y_Packer_writeInWay 0 [some (.inr 6), some (.inl x8), some (.inr c), some (.inr 3), some (.inl x3), some (.inl x4), none, none, none] [] m5 (fun r m6 => r = none ∧ ((x8 = 0 → zR κ (d + 1) Y_Packer_writeBlock 43 [some (.inr 6), some (.inr c), some (.inr 3), some (.inl x3), some (.inl x4), some (.inl x5), some (.inl x8), some (.inl (m6 3 2)), some (.inl (x8 + 1))] [] m6 Q) ∧ (¬ x8 = 0 → ((x7 ≤ (m6 3 2) → zR κ (d + 1) Y_Packer_writeBlock 43 [some (.inr 6), some (.inr c), some (.inr 3), some (.inl x3), some (.inl x4), some (.inl x5), some (.inl x6), some (.inl x7), some (.inl (x8 + 1))] [] m6 Q) ∧ (¬ x7 ≤ (m6 3 2) → zR κ (d + 1) Y_Packer_writeBlock 43 [some (.inr 6), some (.inr c), some (.inr 3), some (.inl x3), some (.inl x4), some (.inl x5), some (.inl x8), some (.inl (m6 3 2)), some (.inl (x8 + 1))] [] m6 Q))))))))) : zR κ (d + 1) Y_Packer_writeBlock 43 [some (.inr 6), some (.inr c), some (.inr 3), some (.inl x3), some (.inl x4), some (.inl x5), some (.inl x6), some (.inl x7), some (.inl x8)] [] mem Q := by
  refine zR_iload d_Packer_writeBlock_43 rfl ?_
  refine zR_iconst (v := 2) d_Packer_writeBlock_45 (by decide) ?_
  refine zR_icmp_gt (tgt := 96) d_Packer_writeBlock_46 (by decide) (fun h1 => ?_) (fun h1 => ?_)
  · replace h := h.1 h1
    refine zR_aload_n d_Packer_writeBlock_96 rfl rfl ?_
    refine zR_iload d_Packer_writeBlock_97 rfl ?_
    refine zR_callV (Y' := Y_BitStream_goBackTo) (n := 1) (A := [.inl x5]) (b := 3) (S := []) v_BitStream_goBackTo g_67 sh_3 cl_BitStream rfl d_Packer_writeBlock_99 rfl (Nat.le_of_ble_eq_true rfl) rfl (zR_cons ?_ h)
    rintro r_ m1 ⟨rfl, h⟩
    show zR κ (d + 1) Y_Packer_writeBlock 102 [some (.inr 6), some (.inr c), some (.inr 3), some (.inl x3), some (.inl x4), some (.inl x5), some (.inl x6), some (.inl x7), some (.inl x8)] [] m1 Q
    refine zR_aload_n d_Packer_writeBlock_102 rfl rfl ?_
    refine zR_iload d_Packer_writeBlock_103 rfl ?_
    refine zR_aload_n d_Packer_writeBlock_105 rfl rfl ?_
    refine zR_aload_n d_Packer_writeBlock_106 rfl rfl ?_
    refine zR_iload_n d_Packer_writeBlock_107 rfl rfl ?_
    refine zR_iload d_Packer_writeBlock_108 rfl ?_
    refine zR_callV (Y' := Y_Packer_writeInWay) (n := 5) (A := [.inl x6, .inr c, .inr 3, .inl x3, .inl x4]) (b := 6) (S := []) v_Packer_writeInWay g_68 sh_6 cl_Packer rfl d_Packer_writeBlock_110 rfl (Nat.le_of_ble_eq_true rfl) rfl (zR_cons ?_ h)
    rintro r_ m2 ⟨rfl, h⟩
    show zR κ (d + 1) Y_Packer_writeBlock 113 [some (.inr 6), some (.inr c), some (.inr 3), some (.inl x3), some (.inl x4), some (.inl x5), some (.inl x6), some (.inl x7), some (.inl x8)] [] m2 Q
    refine zR_iload d_Packer_writeBlock_113 rfl ?_
    refine zR_if_eq (tgt := 143) d_Packer_writeBlock_115 (by decide) (fun h1 => ?_) (fun h1 => ?_)
    · replace h := h.1 h1
      exact zR_return rfl d_Packer_writeBlock_143 h
    · replace h := h.2 h1
      refine zR_aload_n d_Packer_writeBlock_118 rfl rfl ?_
      refine zR_getR (j := 1) d_Packer_writeBlock_119 sh_6 cl_Packer rfl (by decide) g_60 ?_
      refine zR_aload_n d_Packer_writeBlock_122 rfl rfl ?_
      refine zR_getR (j := 3) d_Packer_writeBlock_123 sh_6 cl_Packer rfl (by decide) g_64 ?_
      refine zR_getRN (j := 1) d_Packer_writeBlock_126 sh_31 cl_Plan rfl (by decide) n_69 ?_
      refine zR_callV (Y' := Y_Ring_become) (n := 1) (A := [.inr 33]) (b := 8) (S := []) v_Ring_become g_70 sh_8 cl_Ring rfl d_Packer_writeBlock_129 rfl (Nat.le_of_ble_eq_true rfl) rfl (zR_cons ?_ h)
      rintro r_ m3 ⟨rfl, h⟩
      show zR κ (d + 1) Y_Packer_writeBlock 132 [some (.inr 6), some (.inr c), some (.inr 3), some (.inl x3), some (.inl x4), some (.inl x5), some (.inl x6), some (.inl x7), some (.inl x8)] [] m3 Q
      refine zR_aload_n d_Packer_writeBlock_132 rfl rfl ?_
      refine zR_getR (j := 0) d_Packer_writeBlock_133 sh_6 cl_Packer rfl (by decide) g_58 ?_
      refine zR_aload_n d_Packer_writeBlock_136 rfl rfl ?_
      refine zR_getR (j := 3) d_Packer_writeBlock_137 sh_6 cl_Packer rfl (by decide) g_64 ?_
      refine zR_callV (Y' := Y_Counts_addBlock) (n := 1) (A := [.inr 31]) (b := 7) (S := []) v_Counts_addBlock g_71 sh_7 cl_Counts rfl d_Packer_writeBlock_140 rfl (Nat.le_of_ble_eq_true rfl) rfl (zR_cons ?_ h)
      rintro r_ m4 ⟨rfl, h⟩
      show zR κ (d + 1) Y_Packer_writeBlock 143 [some (.inr 6), some (.inr c), some (.inr 3), some (.inl x3), some (.inl x4), some (.inl x5), some (.inl x6), some (.inl x7), some (.inl x8)] [] m4 Q
      exact zR_return rfl d_Packer_writeBlock_143 h
  · replace h := h.2 h1
    refine zR_aload_n d_Packer_writeBlock_49 rfl rfl ?_
    refine zR_iload d_Packer_writeBlock_50 rfl ?_
    refine zR_callV (Y' := Y_BitStream_goBackTo) (n := 1) (A := [.inl x5]) (b := 3) (S := []) v_BitStream_goBackTo g_67 sh_3 cl_BitStream rfl d_Packer_writeBlock_52 rfl (Nat.le_of_ble_eq_true rfl) rfl (zR_cons ?_ h)
    rintro r_ m5 ⟨rfl, h⟩
    show zR κ (d + 1) Y_Packer_writeBlock 55 [some (.inr 6), some (.inr c), some (.inr 3), some (.inl x3), some (.inl x4), some (.inl x5), some (.inl x6), some (.inl x7), some (.inl x8)] [] m5 Q
    refine zR_aload_n d_Packer_writeBlock_55 rfl rfl ?_
    refine zR_iload d_Packer_writeBlock_56 rfl ?_
    refine zR_aload_n d_Packer_writeBlock_58 rfl rfl ?_
    refine zR_aload_n d_Packer_writeBlock_59 rfl rfl ?_
    refine zR_iload_n d_Packer_writeBlock_60 rfl rfl ?_
    refine zR_iload d_Packer_writeBlock_61 rfl ?_
    refine zR_callV (Y' := Y_Packer_writeInWay) (n := 5) (A := [.inl x8, .inr c, .inr 3, .inl x3, .inl x4]) (b := 6) (S := []) v_Packer_writeInWay g_68 sh_6 cl_Packer rfl d_Packer_writeBlock_63 rfl (Nat.le_of_ble_eq_true rfl) rfl (zR_cons ?_ h)
    rintro r_ m6 ⟨rfl, h⟩
    show zR κ (d + 1) Y_Packer_writeBlock 66 [some (.inr 6), some (.inr c), some (.inr 3), some (.inl x3), some (.inl x4), some (.inl x5), some (.inl x6), some (.inl x7), some (.inl x8)] [] m6 Q
    refine zR_iload d_Packer_writeBlock_66 rfl ?_
    refine zR_if_eq (tgt := 80) d_Packer_writeBlock_68 (by decide) (fun h1 => ?_) (fun h1 => ?_)
    · replace h := h.1 h1
      refine zR_iload d_Packer_writeBlock_80 rfl ?_
      refine zR_istore d_Packer_writeBlock_82 (by decide) ?_
      refine zR_aload_n d_Packer_writeBlock_84 rfl rfl ?_
      refine zR_getIN (j := 2) d_Packer_writeBlock_85 sh_3 cl_BitStream rfl (by decide) n_66 ?_
      refine zR_istore d_Packer_writeBlock_88 (by decide) ?_
      refine zR_iinc (v := 1) d_Packer_writeBlock_90 rfl (by decide) (by decide) ?_
      refine zR_goto (tgt := 43) d_Packer_writeBlock_93 (by decide) ?_
      exact h
    · replace h := h.2 h1
      refine zR_aload_n d_Packer_writeBlock_71 rfl rfl ?_
      refine zR_getIN (j := 2) d_Packer_writeBlock_72 sh_3 cl_BitStream rfl (by decide) n_66 ?_
      refine zR_iload d_Packer_writeBlock_75 rfl ?_
      refine zR_icmp_ge (tgt := 90) d_Packer_writeBlock_77 (by decide) (fun h1 => ?_) (fun h1 => ?_)
      · replace h := h.1 h1
        refine zR_iinc (v := 1) d_Packer_writeBlock_90 rfl (by decide) (by decide) ?_
        refine zR_goto (tgt := 43) d_Packer_writeBlock_93 (by decide) ?_
        exact h
      · replace h := h.2 h1
        refine zR_iload d_Packer_writeBlock_80 rfl ?_
        refine zR_istore d_Packer_writeBlock_82 (by decide) ?_
        refine zR_aload_n d_Packer_writeBlock_84 rfl rfl ?_
        refine zR_getIN (j := 2) d_Packer_writeBlock_85 sh_3 cl_BitStream rfl (by decide) n_66 ?_
        refine zR_istore d_Packer_writeBlock_88 (by decide) ?_
        refine zR_iinc (v := 1) d_Packer_writeBlock_90 rfl (by decide) (by decide) ?_
        refine zR_goto (tgt := 43) d_Packer_writeBlock_93 (by decide) ?_
        exact h
theorem w_Packer_writeInWay_0 {κ : zK} {d : Nat} {mem : zM} {Q : Option zV → zM → Prop} {c : Nat} {x1 x4 x5 : Int32} (hc : is_Text c)
    (h : ((¬ x5 = (mem c 1) → zR κ (d + 1) Y_Packer_writeInWay 14 [some (.inr 6), some (.inl x1), some (.inr c), some (.inr 3), some (.inl x4), some (.inl x5), none, none, none] [.inl 0] mem Q) ∧ (x5 = (mem c 1) → zR κ (d + 1) Y_Packer_writeInWay 14 [some (.inr 6), some (.inl x1), some (.inr c), some (.inr 3), some (.inl x4), some (.inl x5), none, none, none] [.inl 1] mem Q))) : zR κ (d + 1) Y_Packer_writeInWay 0 [some (.inr 6), some (.inl x1), some (.inr c), some (.inr 3), some (.inl x4), some (.inl x5), none, none, none] [] mem Q := by
  refine zR_iload d_Packer_writeInWay_0 rfl ?_
  refine zR_aload_n d_Packer_writeInWay_2 rfl rfl ?_
  refine zR_getIN (j := 1) d_Packer_writeInWay_3 hc.1 cl_Text rfl (by decide) n_62 ?_
  refine zR_icmp_ne (tgt := 13) d_Packer_writeInWay_6 (by decide) (fun h1 => ?_) (fun h1 => ?_)
  · replace h := h.1 h1
    refine zR_iconst (v := 0) d_Packer_writeInWay_13 (by decide) ?_
    exact h
  · replace h := h.2 h1
    refine zR_iconst (v := 1) d_Packer_writeInWay_9 (by decide) ?_
    refine zR_goto (tgt := 14) d_Packer_writeInWay_10 (by decide) ?_
    exact h
theorem w_Packer_writeInWay_14 {κ : zK} {d : Nat} {mem : zM} {Q : Option zV → zM → Prop} {c : Nat} {x1 x4 x5 s0 : Int32} (hc : is_Text c)
    (h : ((s0 = 0 → ((s0 = 0 → zR κ (d + 1) Y_Packer_writeInWay 37 [some (.inr 6), some (.inl x1), some (.inr c), some (.inr 3), some (.inl x4), some (.inl x5), some (.inl s0), none, none] [.inl 1, .inl 0, .inr 3] mem Q) ∧ (¬ s0 = 0 → zR κ (d + 1) Y_Packer_writeInWay 37 [some (.inr 6), some (.inl x1), some (.inr c), some (.inr 3), some (.inl x4), some (.inl x5), some (.inl s0), none, none] [.inl 2, .inl 0, .inr 3] mem Q))) ∧ (¬ s0 = 0 → ((s0 = 0 → zR κ (d + 1) Y_Packer_writeInWay 37 [some (.inr 6), some (.inl x1), some (.inr c), some (.inr 3), some (.inl x4), some (.inl x5), some (.inl s0), none, none] [.inl 1, .inl 1, .inr 3] mem Q) ∧ (¬ s0 = 0 → zR κ (d + 1) Y_Packer_writeInWay 37 [some (.inr 6), some (.inl x1), some (.inr c), some (.inr 3), some (.inl x4), some (.inl x5), some (.inl s0), none, none] [.inl 2, .inl 1, .inr 3] mem Q))))) : zR κ (d + 1) Y_Packer_writeInWay 14 [some (.inr 6), some (.inl x1), some (.inr c), some (.inr 3), some (.inl x4), some (.inl x5), none, none, none] [.inl s0] mem Q := by
  refine zR_istore d_Packer_writeInWay_14 (by decide) ?_
  refine zR_aload_n d_Packer_writeInWay_16 rfl rfl ?_
  refine zR_iload d_Packer_writeInWay_17 rfl ?_
  refine zR_if_eq (tgt := 26) d_Packer_writeInWay_19 (by decide) (fun h1 => ?_) (fun h1 => ?_)
  · replace h := h.1 h1
    refine zR_iconst (v := 0) d_Packer_writeInWay_26 (by decide) ?_
    refine zR_iload d_Packer_writeInWay_27 rfl ?_
    refine zR_if_eq (tgt := 36) d_Packer_writeInWay_29 (by decide) (fun h1 => ?_) (fun h1 => ?_)
    · replace h := h.1 h1
      refine zR_iconst (v := 1) d_Packer_writeInWay_36 (by decide) ?_
      exact h
    · replace h := h.2 h1
      refine zR_iconst (v := 2) d_Packer_writeInWay_32 (by decide) ?_
      refine zR_goto (tgt := 37) d_Packer_writeInWay_33 (by decide) ?_
      exact h
  · replace h := h.2 h1
    refine zR_iconst (v := 1) d_Packer_writeInWay_22 (by decide) ?_
    refine zR_goto (tgt := 27) d_Packer_writeInWay_23 (by decide) ?_
    refine zR_iload d_Packer_writeInWay_27 rfl ?_
    refine zR_if_eq (tgt := 36) d_Packer_writeInWay_29 (by decide) (fun h1 => ?_) (fun h1 => ?_)
    · replace h := h.1 h1
      refine zR_iconst (v := 1) d_Packer_writeInWay_36 (by decide) ?_
      exact h
    · replace h := h.2 h1
      refine zR_iconst (v := 2) d_Packer_writeInWay_32 (by decide) ?_
      refine zR_goto (tgt := 37) d_Packer_writeInWay_33 (by decide) ?_
      exact h
theorem w_Packer_writeInWay_37 {κ : zK} {d : Nat} {mem : zM} {Q : Option zV → zM → Prop} {c : Nat} {x1 x4 x5 x6 s1 s2 : Int32} (hc : is_Text c)
    (h : zR κ d Y_BitStream_give 0 [some (.inr 3), some (.inl s1), some (.inl s2), none, none, none] [] mem (fun r m1 => r = none ∧ ((¬ x1 = 0 → zR κ (d + 1) Y_Packer_writeInWay 50 [some (.inr 6), some (.inl x1), some (.inr c), some (.inr 3), some (.inl x4), some (.inl x5), some (.inl x6), none, none] [.inl 1, .inr 3] m1 Q) ∧ (x1 = 0 → zR κ (d + 1) Y_Packer_writeInWay 50 [some (.inr 6), some (.inl x1), some (.inr c), some (.inr 3), some (.inl x4), some (.inl x5), some (.inl x6), none, none] [.inl 0, .inr 3] m1 Q)))) : zR κ (d + 1) Y_Packer_writeInWay 37 [some (.inr 6), some (.inl x1), some (.inr c), some (.inr 3), some (.inl x4), some (.inl x5), some (.inl x6), none, none] [.inl s2, .inl s1, .inr 3] mem Q := by
  refine zR_callV (Y' := Y_BitStream_give) (n := 2) (A := [.inl s1, .inl s2]) (b := 3) (S := []) v_BitStream_give g_72 sh_3 cl_BitStream rfl d_Packer_writeInWay_37 rfl (Nat.le_of_ble_eq_true rfl) rfl (zR_cons ?_ h)
  rintro r_ m1 ⟨rfl, h⟩
  show zR κ (d + 1) Y_Packer_writeInWay 40 [some (.inr 6), some (.inl x1), some (.inr c), some (.inr 3), some (.inl x4), some (.inl x5), some (.inl x6), none, none] [] m1 Q
  refine zR_aload_n d_Packer_writeInWay_40 rfl rfl ?_
  refine zR_iload_n d_Packer_writeInWay_41 rfl rfl ?_
  refine zR_if_ne (tgt := 49) d_Packer_writeInWay_42 (by decide) (fun h1 => ?_) (fun h1 => ?_)
  · replace h := h.1 h1
    refine zR_iconst (v := 1) d_Packer_writeInWay_49 (by decide) ?_
    exact h
  · replace h := h.2 h1
    refine zR_iconst (v := 0) d_Packer_writeInWay_45 (by decide) ?_
    refine zR_goto (tgt := 50) d_Packer_writeInWay_46 (by decide) ?_
    exact h
theorem w_Packer_writeInWay_50 {κ : zK} {d : Nat} {mem : zM} {Q : Option zV → zM → Prop} {c : Nat} {x1 x4 x5 x6 s1 : Int32} (hc : is_Text c)
    (h : zR κ d Y_BitStream_give 0 [some (.inr 3), some (.inl s1), some (.inl 1), none, none, none] [] mem (fun r m1 => r = none ∧ zR κ d Y_BitStream_give 0 [some (.inr 3), some (.inl ((x5 - x4) - 1)), some (.inl 6), none, none, none] [] m1 (fun r m2 => r = none ∧ ((¬ x1 = 0 → ((¬ x1 = 2 → zR κ (d + 1) Y_Packer_writeInWay 92 [some (.inr 6), some (.inl x1), some (.inr c), some (.inr 3), some (.inl x4), some (.inl x5), some (.inl x6), none, none] [.inl 0] m2 Q) ∧ (x1 = 2 → zR κ (d + 1) Y_Packer_writeInWay 92 [some (.inr 6), some (.inl x1), some (.inr c), some (.inr 3), some (.inl x4), some (.inl x5), some (.inl x6), none, none] [.inl 1] m2 Q))) ∧ (x1 = 0 → zR κ d Y_Packer_writeRaw 0 [some (.inr 6), some (.inr c), some (.inr 3), some (.inl x4), some (.inl x5), none] [] m2 (fun r m3 => r = none ∧ Q none m3)))))) : zR κ (d + 1) Y_Packer_writeInWay 50 [some (.inr 6), some (.inl x1), some (.inr c), some (.inr 3), some (.inl x4), some (.inl x5), some (.inl x6), none, none] [.inl s1, .inr 3] mem Q := by
  refine zR_iconst (v := 1) d_Packer_writeInWay_50 (by decide) ?_
  refine zR_callV (Y' := Y_BitStream_give) (n := 2) (A := [.inl s1, .inl 1]) (b := 3) (S := []) v_BitStream_give g_72 sh_3 cl_BitStream rfl d_Packer_writeInWay_51 rfl (Nat.le_of_ble_eq_true rfl) rfl (zR_cons ?_ h)
  rintro r_ m1 ⟨rfl, h⟩
  show zR κ (d + 1) Y_Packer_writeInWay 54 [some (.inr 6), some (.inl x1), some (.inr c), some (.inr 3), some (.inl x4), some (.inl x5), some (.inl x6), none, none] [] m1 Q
  refine zR_aload_n d_Packer_writeInWay_54 rfl rfl ?_
  refine zR_iload d_Packer_writeInWay_55 rfl ?_
  refine zR_iload d_Packer_writeInWay_57 rfl ?_
  refine zR_isub d_Packer_writeInWay_59 ?_
  refine zR_iconst (v := 1) d_Packer_writeInWay_60 (by decide) ?_
  refine zR_isub d_Packer_writeInWay_61 ?_
  refine zR_bipush (v := 6) d_Packer_writeInWay_62 (by decide) ?_
  refine zR_callV (Y' := Y_BitStream_give) (n := 2) (A := [.inl ((x5 - x4) - 1), .inl 6]) (b := 3) (S := []) v_BitStream_give g_72 sh_3 cl_BitStream rfl d_Packer_writeInWay_64 rfl (Nat.le_of_ble_eq_true rfl) rfl (zR_cons ?_ h)
  rintro r_ m2 ⟨rfl, h⟩
  show zR κ (d + 1) Y_Packer_writeInWay 67 [some (.inr 6), some (.inl x1), some (.inr c), some (.inr 3), some (.inl x4), some (.inl x5), some (.inl x6), none, none] [] m2 Q
  refine zR_iload_n d_Packer_writeInWay_67 rfl rfl ?_
  refine zR_if_ne (tgt := 82) d_Packer_writeInWay_68 (by decide) (fun h1 => ?_) (fun h1 => ?_)
  · replace h := h.1 h1
    refine zR_iload_n d_Packer_writeInWay_82 rfl rfl ?_
    refine zR_iconst (v := 2) d_Packer_writeInWay_83 (by decide) ?_
    refine zR_icmp_ne (tgt := 91) d_Packer_writeInWay_84 (by decide) (fun h1 => ?_) (fun h1 => ?_)
    · replace h := h.1 h1
      refine zR_iconst (v := 0) d_Packer_writeInWay_91 (by decide) ?_
      exact h
    · replace h := h.2 h1
      refine zR_iconst (v := 1) d_Packer_writeInWay_87 (by decide) ?_
      refine zR_goto (tgt := 92) d_Packer_writeInWay_88 (by decide) ?_
      exact h
  · replace h := h.2 h1
    refine zR_aload_n d_Packer_writeInWay_71 rfl rfl ?_
    refine zR_aload_n d_Packer_writeInWay_72 rfl rfl ?_
    refine zR_aload_n d_Packer_writeInWay_73 rfl rfl ?_
    refine zR_iload d_Packer_writeInWay_74 rfl ?_
    refine zR_iload d_Packer_writeInWay_76 rfl ?_
    refine zR_callV (Y' := Y_Packer_writeRaw) (n := 4) (A := [.inr c, .inr 3, .inl x4, .inl x5]) (b := 6) (S := []) v_Packer_writeRaw g_73 sh_6 cl_Packer rfl d_Packer_writeInWay_78 rfl (Nat.le_of_ble_eq_true rfl) rfl (zR_cons ?_ h)
    rintro r_ m3 ⟨rfl, h⟩
    show zR κ (d + 1) Y_Packer_writeInWay 81 [some (.inr 6), some (.inl x1), some (.inr c), some (.inr 3), some (.inl x4), some (.inl x5), some (.inl x6), none, none] [] m3 Q
    exact zR_return rfl d_Packer_writeInWay_81 h
theorem w_Packer_writeInWay_92 {κ : zK} {d : Nat} {mem : zM} {Q : Option zV → zM → Prop} {c : Nat} {x1 x4 x5 x6 s0 : Int32} (hc : is_Text c)
    (h : zR κ d Y_Packer_countSymbols 0 [some (.inr 6), some (.inr c), some (.inl s0), none, none, none] [] mem (fun r m1 => r = none ∧ zR κ d Y_Codes_makeFromTimes 0 [some (.inr 10)] [] m1 (fun r m2 => r = none ∧ ((s0 = 0 → zR κ (d + 1) Y_Packer_writeInWay 119 [some (.inr 6), some (.inl x1), some (.inr c), some (.inr 3), some (.inl x4), some (.inl x5), some (.inl x6), some (.inl s0), none] [.inl 0, .inr 3] m2 Q) ∧ (¬ s0 = 0 → zR κ (d + 1) Y_Packer_writeInWay 119 [some (.inr 6), some (.inl x1), some (.inr c), some (.inr 3), some (.inl x4), some (.inl x5), some (.inl x6), some (.inl s0), none] [.inl 1, .inr 3] m2 Q))))) : zR κ (d + 1) Y_Packer_writeInWay 92 [some (.inr 6), some (.inl x1), some (.inr c), some (.inr 3), some (.inl x4), some (.inl x5), some (.inl x6), none, none] [.inl s0] mem Q := by
  refine zR_istore d_Packer_writeInWay_92 (by decide) ?_
  refine zR_aload_n d_Packer_writeInWay_94 rfl rfl ?_
  refine zR_aload_n d_Packer_writeInWay_95 rfl rfl ?_
  refine zR_iload d_Packer_writeInWay_96 rfl ?_
  refine zR_callV (Y' := Y_Packer_countSymbols) (n := 2) (A := [.inr c, .inl s0]) (b := 6) (S := []) v_Packer_countSymbols g_74 sh_6 cl_Packer rfl d_Packer_writeInWay_98 rfl (Nat.le_of_ble_eq_true rfl) rfl (zR_cons ?_ h)
  rintro r_ m1 ⟨rfl, h⟩
  show zR κ (d + 1) Y_Packer_writeInWay 101 [some (.inr 6), some (.inl x1), some (.inr c), some (.inr 3), some (.inl x4), some (.inl x5), some (.inl x6), some (.inl s0), none] [] m1 Q
  refine zR_aload_n d_Packer_writeInWay_101 rfl rfl ?_
  refine zR_getR (j := 2) d_Packer_writeInWay_102 sh_6 cl_Packer rfl (by decide) g_75 ?_
  refine zR_callV (Y' := Y_Codes_makeFromTimes) (n := 0) (A := []) (b := 10) (S := []) v_Codes_makeFromTimes g_76 sh_10 cl_Codes rfl d_Packer_writeInWay_105 rfl (Nat.le_of_ble_eq_true rfl) rfl (zR_cons ?_ h)
  rintro r_ m2 ⟨rfl, h⟩
  show zR κ (d + 1) Y_Packer_writeInWay 108 [some (.inr 6), some (.inl x1), some (.inr c), some (.inr 3), some (.inl x4), some (.inl x5), some (.inl x6), some (.inl s0), none] [] m2 Q
  refine zR_aload_n d_Packer_writeInWay_108 rfl rfl ?_
  refine zR_iload d_Packer_writeInWay_109 rfl ?_
  refine zR_if_eq (tgt := 118) d_Packer_writeInWay_111 (by decide) (fun h1 => ?_) (fun h1 => ?_)
  · replace h := h.1 h1
    refine zR_iconst (v := 0) d_Packer_writeInWay_118 (by decide) ?_
    exact h
  · replace h := h.2 h1
    refine zR_iconst (v := 1) d_Packer_writeInWay_114 (by decide) ?_
    refine zR_goto (tgt := 119) d_Packer_writeInWay_115 (by decide) ?_
    exact h
theorem w_Packer_writeInWay_119 {κ : zK} {d : Nat} {mem : zM} {Q : Option zV → zM → Prop} {c : Nat} {x1 x4 x5 x6 x7 s1 : Int32} (hc : is_Text c)
    (h : zR κ d Y_BitStream_give 0 [some (.inr 3), some (.inl s1), some (.inl 1), none, none, none] [] mem (fun r m1 => r = none ∧ zR κ d Y_Code_writeDescription 0 [some (.inr 11), some (.inr 3), none] [] m1 (fun r m2 => r = none ∧ ((x7 = 0 → zR κ (d + 1) Y_Packer_writeInWay 150 [some (.inr 6), some (.inl x1), some (.inr c), some (.inr 3), some (.inl x4), some (.inl x5), some (.inl x6), some (.inl x7), none] [] m2 Q) ∧ (¬ x7 = 0 → zR κ d Y_Code_writeDescription 0 [some (.inr 16), some (.inr 3), none] [] m2 (fun r m3 => r = none ∧ zR κ (d + 1) Y_Packer_writeInWay 150 [some (.inr 6), some (.inl x1), some (.inr c), some (.inr 3), some (.inl x4), some (.inl x5), some (.inl x6), some (.inl x7), none] [] m3 Q)))))) : zR κ (d + 1) Y_Packer_writeInWay 119 [some (.inr 6), some (.inl x1), some (.inr c), some (.inr 3), some (.inl x4), some (.inl x5), some (.inl x6), some (.inl x7), none] [.inl s1, .inr 3] mem Q := by
  refine zR_iconst (v := 1) d_Packer_writeInWay_119 (by decide) ?_
  refine zR_callV (Y' := Y_BitStream_give) (n := 2) (A := [.inl s1, .inl 1]) (b := 3) (S := []) v_BitStream_give g_72 sh_3 cl_BitStream rfl d_Packer_writeInWay_120 rfl (Nat.le_of_ble_eq_true rfl) rfl (zR_cons ?_ h)
  rintro r_ m1 ⟨rfl, h⟩
  show zR κ (d + 1) Y_Packer_writeInWay 123 [some (.inr 6), some (.inl x1), some (.inr c), some (.inr 3), some (.inl x4), some (.inl x5), some (.inl x6), some (.inl x7), none] [] m1 Q
  refine zR_aload_n d_Packer_writeInWay_123 rfl rfl ?_
  refine zR_getR (j := 2) d_Packer_writeInWay_124 sh_6 cl_Packer rfl (by decide) g_75 ?_
  refine zR_getRN (j := 0) d_Packer_writeInWay_127 sh_10 cl_Codes rfl (by decide) n_77 ?_
  refine zR_aload_n d_Packer_writeInWay_130 rfl rfl ?_
  refine zR_callV (Y' := Y_Code_writeDescription) (n := 1) (A := [.inr 3]) (b := 11) (S := []) v_Code_writeDescription g_78 sh_11 cl_Code rfl d_Packer_writeInWay_131 rfl (Nat.le_of_ble_eq_true rfl) rfl (zR_cons ?_ h)
  rintro r_ m2 ⟨rfl, h⟩
  show zR κ (d + 1) Y_Packer_writeInWay 134 [some (.inr 6), some (.inl x1), some (.inr c), some (.inr 3), some (.inl x4), some (.inl x5), some (.inl x6), some (.inl x7), none] [] m2 Q
  refine zR_iload d_Packer_writeInWay_134 rfl ?_
  refine zR_if_eq (tgt := 150) d_Packer_writeInWay_136 (by decide) (fun h1 => ?_) (fun h1 => ?_)
  · replace h := h.1 h1
    exact h
  · replace h := h.2 h1
    refine zR_aload_n d_Packer_writeInWay_139 rfl rfl ?_
    refine zR_getR (j := 2) d_Packer_writeInWay_140 sh_6 cl_Packer rfl (by decide) g_75 ?_
    refine zR_getRN (j := 1) d_Packer_writeInWay_143 sh_10 cl_Codes rfl (by decide) n_79 ?_
    refine zR_aload_n d_Packer_writeInWay_146 rfl rfl ?_
    refine zR_callV (Y' := Y_Code_writeDescription) (n := 1) (A := [.inr 3]) (b := 16) (S := []) v_Code_writeDescription g_78 sh_16 cl_Code rfl d_Packer_writeInWay_147 rfl (Nat.le_of_ble_eq_true rfl) rfl (zR_cons ?_ h)
    rintro r_ m3 ⟨rfl, h⟩
    show zR κ (d + 1) Y_Packer_writeInWay 150 [some (.inr 6), some (.inl x1), some (.inr c), some (.inr 3), some (.inl x4), some (.inl x5), some (.inl x6), some (.inl x7), none] [] m3 Q
    exact h
theorem w_Packer_writeInWay_150 {κ : zK} {d : Nat} {mem : zM} {Q : Option zV → zM → Prop} {c : Nat} {x1 x4 x5 x6 x7 : Int32} (hc : is_Text c)
    (h : zR κ d Y_Code_writeDescription 0 [some (.inr 21), some (.inr 3), none] [] mem (fun r m1 => r = none ∧ zR κ d Y_Code_writeDescription 0 [some (.inr 26), some (.inr 3), none] [] m1 (fun r m2 => r = none ∧ zR κ (d + 1) Y_Packer_writeInWay 175 [some (.inr 6), some (.inl x1), some (.inr c), some (.inr 3), some (.inl x4), some (.inl x5), some (.inl x6), some (.inl x7), some (.inl 0)] [] m2 Q))) : zR κ (d + 1) Y_Packer_writeInWay 150 [some (.inr 6), some (.inl x1), some (.inr c), some (.inr 3), some (.inl x4), some (.inl x5), some (.inl x6), some (.inl x7), none] [] mem Q := by
  refine zR_aload_n d_Packer_writeInWay_150 rfl rfl ?_
  refine zR_getR (j := 2) d_Packer_writeInWay_151 sh_6 cl_Packer rfl (by decide) g_75 ?_
  refine zR_getRN (j := 2) d_Packer_writeInWay_154 sh_10 cl_Codes rfl (by decide) n_80 ?_
  refine zR_aload_n d_Packer_writeInWay_157 rfl rfl ?_
  refine zR_callV (Y' := Y_Code_writeDescription) (n := 1) (A := [.inr 3]) (b := 21) (S := []) v_Code_writeDescription g_78 sh_21 cl_Code rfl d_Packer_writeInWay_158 rfl (Nat.le_of_ble_eq_true rfl) rfl (zR_cons ?_ h)
  rintro r_ m1 ⟨rfl, h⟩
  show zR κ (d + 1) Y_Packer_writeInWay 161 [some (.inr 6), some (.inl x1), some (.inr c), some (.inr 3), some (.inl x4), some (.inl x5), some (.inl x6), some (.inl x7), none] [] m1 Q
  refine zR_aload_n d_Packer_writeInWay_161 rfl rfl ?_
  refine zR_getR (j := 2) d_Packer_writeInWay_162 sh_6 cl_Packer rfl (by decide) g_75 ?_
  refine zR_getRN (j := 3) d_Packer_writeInWay_165 sh_10 cl_Codes rfl (by decide) n_81 ?_
  refine zR_aload_n d_Packer_writeInWay_168 rfl rfl ?_
  refine zR_callV (Y' := Y_Code_writeDescription) (n := 1) (A := [.inr 3]) (b := 26) (S := []) v_Code_writeDescription g_78 sh_26 cl_Code rfl d_Packer_writeInWay_169 rfl (Nat.le_of_ble_eq_true rfl) rfl (zR_cons ?_ h)
  rintro r_ m2 ⟨rfl, h⟩
  show zR κ (d + 1) Y_Packer_writeInWay 172 [some (.inr 6), some (.inl x1), some (.inr c), some (.inr 3), some (.inl x4), some (.inl x5), some (.inl x6), some (.inl x7), none] [] m2 Q
  refine zR_iconst (v := 0) d_Packer_writeInWay_172 (by decide) ?_
  refine zR_istore d_Packer_writeInWay_173 (by decide) ?_
  exact h
theorem w_Packer_writeInWay_175 {κ : zK} {d : Nat} {mem : zM} {Q : Option zV → zM → Prop} {c : Nat} {x1 x4 x5 x6 x7 x8 : Int32} (hc : is_Text c)
    (h : (((mem 31 8) ≤ x8 → Q none mem) ∧ (¬ (mem 31 8) ≤ x8 → zR κ d Y_Packer_writeCommand 0 [some (.inr 6), some (.inr c), some (.inr 3), some (.inl x7), some (.inl x8), none, none, none, none] [] mem (fun r m1 => r = none ∧ zR κ (d + 1) Y_Packer_writeInWay 175 [some (.inr 6), some (.inl x1), some (.inr c), some (.inr 3), some (.inl x4), some (.inl x5), some (.inl x6), some (.inl x7), some (.inl (x8 + 1))] [] m1 Q)))) : zR κ (d + 1) Y_Packer_writeInWay 175 [some (.inr 6), some (.inl x1), some (.inr c), some (.inr 3), some (.inl x4), some (.inl x5), some (.inl x6), some (.inl x7), some (.inl x8)] [] mem Q := by
  refine zR_iload d_Packer_writeInWay_175 rfl ?_
  refine zR_aload_n d_Packer_writeInWay_177 rfl rfl ?_
  refine zR_getR (j := 3) d_Packer_writeInWay_178 sh_6 cl_Packer rfl (by decide) g_64 ?_
  refine zR_getIN (j := 8) d_Packer_writeInWay_181 sh_31 cl_Plan rfl (by decide) n_82 ?_
  refine zR_icmp_ge (tgt := 203) d_Packer_writeInWay_184 (by decide) (fun h1 => ?_) (fun h1 => ?_)
  · replace h := h.1 h1
    exact zR_return rfl d_Packer_writeInWay_203 h
  · replace h := h.2 h1
    refine zR_aload_n d_Packer_writeInWay_187 rfl rfl ?_
    refine zR_aload_n d_Packer_writeInWay_188 rfl rfl ?_
    refine zR_aload_n d_Packer_writeInWay_189 rfl rfl ?_
    refine zR_iload d_Packer_writeInWay_190 rfl ?_
    refine zR_iload d_Packer_writeInWay_192 rfl ?_
    refine zR_callV (Y' := Y_Packer_writeCommand) (n := 4) (A := [.inr c, .inr 3, .inl x7, .inl x8]) (b := 6) (S := []) v_Packer_writeCommand g_83 sh_6 cl_Packer rfl d_Packer_writeInWay_194 rfl (Nat.le_of_ble_eq_true rfl) rfl (zR_cons ?_ h)
    rintro r_ m1 ⟨rfl, h⟩
    show zR κ (d + 1) Y_Packer_writeInWay 197 [some (.inr 6), some (.inl x1), some (.inr c), some (.inr 3), some (.inl x4), some (.inl x5), some (.inl x6), some (.inl x7), some (.inl x8)] [] m1 Q
    refine zR_iinc (v := 1) d_Packer_writeInWay_197 rfl (by decide) (by decide) ?_
    refine zR_goto (tgt := 175) d_Packer_writeInWay_200 (by decide) ?_
    exact h
theorem w_Packer_writeRaw_0 {κ : zK} {d : Nat} {mem : zM} {Q : Option zV → zM → Prop} {c : Nat} {x3 x4 : Int32} (hc : is_Text c)
    (h : zR κ d Y_BitStream_giveZerosToByteEnd 0 [some (.inr 3)] [] mem (fun r m1 => r = none ∧ zR κ (d + 1) Y_Packer_writeRaw 7 [some (.inr 6), some (.inr c), some (.inr 3), some (.inl x3), some (.inl x4), some (.inl x3)] [] m1 Q)) : zR κ (d + 1) Y_Packer_writeRaw 0 [some (.inr 6), some (.inr c), some (.inr 3), some (.inl x3), some (.inl x4), none] [] mem Q := by
  refine zR_aload_n d_Packer_writeRaw_0 rfl rfl ?_
  refine zR_callV (Y' := Y_BitStream_giveZerosToByteEnd) (n := 0) (A := []) (b := 3) (S := []) v_BitStream_giveZerosToByteEnd g_84 sh_3 cl_BitStream rfl d_Packer_writeRaw_1 rfl (Nat.le_of_ble_eq_true rfl) rfl (zR_cons ?_ h)
  rintro r_ m1 ⟨rfl, h⟩
  show zR κ (d + 1) Y_Packer_writeRaw 4 [some (.inr 6), some (.inr c), some (.inr 3), some (.inl x3), some (.inl x4), none] [] m1 Q
  refine zR_iload_n d_Packer_writeRaw_4 rfl rfl ?_
  refine zR_istore d_Packer_writeRaw_5 (by decide) ?_
  exact h
theorem w_Packer_writeRaw_7 {κ : zK} {d : Nat} {mem : zM} {Q : Option zV → zM → Prop} {c : Nat} {x3 x4 x5 : Int32} (hc : is_Text c)
    (h : ((x4 ≤ x5 → Q none mem) ∧ (¬ x4 ≤ x5 → zR κ d Y_Text_get 0 [some (.inr c), some (.inl x5)] [] mem (fun r m1 => ∃ y2 : Int32, r = some (.inl y2) ∧ zR κ d Y_BitStream_give 0 [some (.inr 3), some (.inl y2), some (.inl 8), none, none, none] [] m1 (fun r m3 => r = none ∧ zR κ (d + 1) Y_Packer_writeRaw 7 [some (.inr 6), some (.inr c), some (.inr 3), some (.inl x3), some (.inl x4), some (.inl (x5 + 1))] [] m3 Q))))) : zR κ (d + 1) Y_Packer_writeRaw 7 [some (.inr 6), some (.inr c), some (.inr 3), some (.inl x3), some (.inl x4), some (.inl x5)] [] mem Q := by
  refine zR_iload d_Packer_writeRaw_7 rfl ?_
  refine zR_iload d_Packer_writeRaw_9 rfl ?_
  refine zR_icmp_ge (tgt := 32) d_Packer_writeRaw_11 (by decide) (fun h1 => ?_) (fun h1 => ?_)
  · replace h := h.1 h1
    exact zR_return rfl d_Packer_writeRaw_32 h
  · replace h := h.2 h1
    refine zR_aload_n d_Packer_writeRaw_14 rfl rfl ?_
    refine zR_aload_n d_Packer_writeRaw_15 rfl rfl ?_
    refine zR_iload d_Packer_writeRaw_16 rfl ?_
    refine zR_callV (Y' := Y_Text_get) (n := 1) (A := [.inl x5]) (b := c) (S := [.inr 3]) v_Text_get g_85 hc.1 cl_Text rfl d_Packer_writeRaw_18 rfl (Nat.le_of_ble_eq_true rfl) rfl (zR_cons ?_ h)
    rintro r_ m1 ⟨y2, rfl, h⟩
    show zR κ (d + 1) Y_Packer_writeRaw 21 [some (.inr 6), some (.inr c), some (.inr 3), some (.inl x3), some (.inl x4), some (.inl x5)] [.inl y2, .inr 3] m1 Q
    refine zR_bipush (v := 8) d_Packer_writeRaw_21 (by decide) ?_
    refine zR_callV (Y' := Y_BitStream_give) (n := 2) (A := [.inl y2, .inl 8]) (b := 3) (S := []) v_BitStream_give g_72 sh_3 cl_BitStream rfl d_Packer_writeRaw_23 rfl (Nat.le_of_ble_eq_true rfl) rfl (zR_cons ?_ h)
    rintro r_ m3 ⟨rfl, h⟩
    show zR κ (d + 1) Y_Packer_writeRaw 26 [some (.inr 6), some (.inr c), some (.inr 3), some (.inl x3), some (.inl x4), some (.inl x5)] [] m3 Q
    refine zR_iinc (v := 1) d_Packer_writeRaw_26 rfl (by decide) (by decide) ?_
    refine zR_goto (tgt := 7) d_Packer_writeRaw_29 (by decide) ?_
    exact h
theorem w_Packer_countSymbols_0 {κ : zK} {d : Nat} {mem : zM} {Q : Option zV → zM → Prop} {c : Nat} {x2 : Int32} (hc : is_Text c)
    (h : zR κ d Y_Codes_forgetTimes 0 [some (.inr 10)] [] mem (fun r m1 => r = none ∧ zR κ (d + 1) Y_Packer_countSymbols 9 [some (.inr 6), some (.inr c), some (.inl x2), some (.inl 0), none, none] [] m1 Q)) : zR κ (d + 1) Y_Packer_countSymbols 0 [some (.inr 6), some (.inr c), some (.inl x2), none, none, none] [] mem Q := by
  refine zR_aload_n d_Packer_countSymbols_0 rfl rfl ?_
  refine zR_getR (j := 2) d_Packer_countSymbols_1 sh_6 cl_Packer rfl (by decide) g_75 ?_
  refine zR_callV (Y' := Y_Codes_forgetTimes) (n := 0) (A := []) (b := 10) (S := []) v_Codes_forgetTimes g_86 sh_10 cl_Codes rfl d_Packer_countSymbols_4 rfl (Nat.le_of_ble_eq_true rfl) rfl (zR_cons ?_ h)
  rintro r_ m1 ⟨rfl, h⟩
  show zR κ (d + 1) Y_Packer_countSymbols 7 [some (.inr 6), some (.inr c), some (.inl x2), none, none, none] [] m1 Q
  refine zR_iconst (v := 0) d_Packer_countSymbols_7 (by decide) ?_
  refine zR_istore_n d_Packer_countSymbols_8 rfl (by decide) ?_
  exact h
theorem w_Packer_countSymbols_9 {κ : zK} {d : Nat} {mem : zM} {Q : Option zV → zM → Prop} {c : Nat} {x2 x3 : Int32} (hc : is_Text c)
    (h : (((mem 31 8) ≤ x3 → Q none mem) ∧ (¬ (mem 31 8) ≤ x3 → zR κ d Y_Plan_commandSymbolOf 0 [some (.inr 31), some (.inl x3)] [] mem (fun r m1 => ∃ y2 : Int32, r = some (.inl y2) ∧ zR κ d Y_Code_countOnce 0 [some (.inr 21), some (.inl y2)] [] m1 (fun r m3 => r = none ∧ vp_in x3 48 ∧ zR κ d Y_Code_countOnce 0 [some (.inr 26), some (.inl (m3 39 x3.toNatClampNeg))] [] m3 (fun r m4 => r = none ∧ zR κ (d + 1) Y_Packer_countSymbols 60 [some (.inr 6), some (.inr c), some (.inl x2), some (.inl x3), some (.inl 0), none] [] m4 Q)))))) : zR κ (d + 1) Y_Packer_countSymbols 9 [some (.inr 6), some (.inr c), some (.inl x2), some (.inl x3), none, none] [] mem Q := by
  refine zR_iload_n d_Packer_countSymbols_9 rfl rfl ?_
  refine zR_aload_n d_Packer_countSymbols_10 rfl rfl ?_
  refine zR_getR (j := 3) d_Packer_countSymbols_11 sh_6 cl_Packer rfl (by decide) g_64 ?_
  refine zR_getIN (j := 8) d_Packer_countSymbols_14 sh_31 cl_Plan rfl (by decide) n_82 ?_
  refine zR_icmp_ge (tgt := 120) d_Packer_countSymbols_17 (by decide) (fun h1 => ?_) (fun h1 => ?_)
  · replace h := h.1 h1
    exact zR_return rfl d_Packer_countSymbols_120 h
  · replace h := h.2 h1
    refine zR_aload_n d_Packer_countSymbols_20 rfl rfl ?_
    refine zR_getR (j := 2) d_Packer_countSymbols_21 sh_6 cl_Packer rfl (by decide) g_75 ?_
    refine zR_getRN (j := 2) d_Packer_countSymbols_24 sh_10 cl_Codes rfl (by decide) n_80 ?_
    refine zR_aload_n d_Packer_countSymbols_27 rfl rfl ?_
    refine zR_getR (j := 3) d_Packer_countSymbols_28 sh_6 cl_Packer rfl (by decide) g_64 ?_
    refine zR_iload_n d_Packer_countSymbols_31 rfl rfl ?_
    refine zR_callV (Y' := Y_Plan_commandSymbolOf) (n := 1) (A := [.inl x3]) (b := 31) (S := [.inr 21]) v_Plan_commandSymbolOf g_87 sh_31 cl_Plan rfl d_Packer_countSymbols_32 rfl (Nat.le_of_ble_eq_true rfl) rfl (zR_cons ?_ h)
    rintro r_ m1 ⟨y2, rfl, h⟩
    show zR κ (d + 1) Y_Packer_countSymbols 35 [some (.inr 6), some (.inr c), some (.inl x2), some (.inl x3), none, none] [.inl y2, .inr 21] m1 Q
    refine zR_callV (Y' := Y_Code_countOnce) (n := 1) (A := [.inl y2]) (b := 21) (S := []) v_Code_countOnce g_88 sh_21 cl_Code rfl d_Packer_countSymbols_35 rfl (Nat.le_of_ble_eq_true rfl) rfl (zR_cons ?_ h)
    rintro r_ m3 ⟨rfl, h⟩
    show zR κ (d + 1) Y_Packer_countSymbols 38 [some (.inr 6), some (.inr c), some (.inl x2), some (.inl x3), none, none] [] m3 Q
    refine zR_aload_n d_Packer_countSymbols_38 rfl rfl ?_
    refine zR_getR (j := 2) d_Packer_countSymbols_39 sh_6 cl_Packer rfl (by decide) g_75 ?_
    refine zR_getRN (j := 3) d_Packer_countSymbols_42 sh_10 cl_Codes rfl (by decide) n_81 ?_
    refine zR_aload_n d_Packer_countSymbols_45 rfl rfl ?_
    refine zR_getR (j := 3) d_Packer_countSymbols_46 sh_6 cl_Packer rfl (by decide) g_64 ?_
    refine zR_getRN (j := 6) d_Packer_countSymbols_49 sh_31 cl_Plan rfl (by decide) n_89 ?_
    refine zR_iload_n d_Packer_countSymbols_52 rfl rfl ?_
    refine zR_iaload d_Packer_countSymbols_53 sh_39 h.1 rfl ?_
    replace h := h.2
    refine zR_callV (Y' := Y_Code_countOnce) (n := 1) (A := [.inl (m3 39 x3.toNatClampNeg)]) (b := 26) (S := []) v_Code_countOnce g_88 sh_26 cl_Code rfl d_Packer_countSymbols_54 rfl (Nat.le_of_ble_eq_true rfl) rfl (zR_cons ?_ h)
    rintro r_ m4 ⟨rfl, h⟩
    show zR κ (d + 1) Y_Packer_countSymbols 57 [some (.inr 6), some (.inr c), some (.inl x2), some (.inl x3), none, none] [] m4 Q
    refine zR_iconst (v := 0) d_Packer_countSymbols_57 (by decide) ?_
    refine zR_istore d_Packer_countSymbols_58 (by decide) ?_
    exact h
theorem w_Packer_countSymbols_60 {κ : zK} {d : Nat} {mem : zM} {Q : Option zV → zM → Prop} {c : Nat} {x2 x3 x4 : Int32} (hc : is_Text c)
    (h : vp_in x3 48 ∧ (((mem 36 x3.toNatClampNeg) ≤ x4 → zR κ (d + 1) Y_Packer_countSymbols 9 [some (.inr 6), some (.inr c), some (.inl x2), some (.inl (x3 + 1)), none, none] [] mem Q) ∧ (¬ (mem 36 x3.toNatClampNeg) ≤ x4 → vp_in x3 48 ∧ zR κ d Y_Codes_literalAt 0 [some (.inr 10), some (.inr c), some (.inl ((mem 35 x3.toNatClampNeg) + x4)), some (.inl x2)] [] mem (fun r m1 => ∃ q2 : Nat, r = some (.inr q2) ∧ zR κ d Y_Text_get 0 [some (.inr c), some (.inl ((mem 35 x3.toNatClampNeg) + x4))] [] m1 (fun r m3 => ∃ y4 : Int32, r = some (.inl y4) ∧ (∃ fs, shT[q2]? = some (.inr (1, fs))) ∧ zR κ d Y_Code_countOnce 0 [some (.inr q2), some (.inl y4)] [] m3 (fun r m5 => r = none ∧ zR κ (d + 1) Y_Packer_countSymbols 60 [some (.inr 6), some (.inr c), some (.inl x2), some (.inl x3), some (.inl (x4 + 1)), none] [] m5 Q)))))) : zR κ (d + 1) Y_Packer_countSymbols 60 [some (.inr 6), some (.inr c), some (.inl x2), some (.inl x3), some (.inl x4), none] [] mem Q := by
  refine zR_iload d_Packer_countSymbols_60 rfl ?_
  refine zR_aload_n d_Packer_countSymbols_62 rfl rfl ?_
  refine zR_getR (j := 3) d_Packer_countSymbols_63 sh_6 cl_Packer rfl (by decide) g_64 ?_
  refine zR_getRN (j := 3) d_Packer_countSymbols_66 sh_31 cl_Plan rfl (by decide) n_90 ?_
  refine zR_iload_n d_Packer_countSymbols_69 rfl rfl ?_
  refine zR_iaload d_Packer_countSymbols_70 sh_36 h.1 rfl ?_
  replace h := h.2
  refine zR_icmp_ge (tgt := 114) d_Packer_countSymbols_71 (by decide) (fun h1 => ?_) (fun h1 => ?_)
  · replace h := h.1 h1
    refine zR_iinc (v := 1) d_Packer_countSymbols_114 rfl (by decide) (by decide) ?_
    refine zR_goto (tgt := 9) d_Packer_countSymbols_117 (by decide) ?_
    refine zR_drop 4 ?_
    exact h
  · replace h := h.2 h1
    refine zR_aload_n d_Packer_countSymbols_74 rfl rfl ?_
    refine zR_getR (j := 3) d_Packer_countSymbols_75 sh_6 cl_Packer rfl (by decide) g_64 ?_
    refine zR_getRN (j := 2) d_Packer_countSymbols_78 sh_31 cl_Plan rfl (by decide) n_91 ?_
    refine zR_iload_n d_Packer_countSymbols_81 rfl rfl ?_
    refine zR_iaload d_Packer_countSymbols_82 sh_35 h.1 rfl ?_
    replace h := h.2
    refine zR_iload d_Packer_countSymbols_83 rfl ?_
    refine zR_iadd d_Packer_countSymbols_85 ?_
    refine zR_istore d_Packer_countSymbols_86 (by decide) ?_
    refine zR_aload_n d_Packer_countSymbols_88 rfl rfl ?_
    refine zR_getR (j := 2) d_Packer_countSymbols_89 sh_6 cl_Packer rfl (by decide) g_75 ?_
    refine zR_aload_n d_Packer_countSymbols_92 rfl rfl ?_
    refine zR_iload d_Packer_countSymbols_93 rfl ?_
    refine zR_iload_n d_Packer_countSymbols_95 rfl rfl ?_
    refine zR_callV (Y' := Y_Codes_literalAt) (n := 3) (A := [.inr c, .inl ((mem 35 x3.toNatClampNeg) + x4), .inl x2]) (b := 10) (S := []) v_Codes_literalAt g_92 sh_10 cl_Codes rfl d_Packer_countSymbols_96 rfl (Nat.le_of_ble_eq_true rfl) rfl (zR_cons ?_ h)
    rintro r_ m1 ⟨q2, rfl, h⟩
    show zR κ (d + 1) Y_Packer_countSymbols 99 [some (.inr 6), some (.inr c), some (.inl x2), some (.inl x3), some (.inl x4), some (.inl ((mem 35 x3.toNatClampNeg) + x4))] [.inr q2] m1 Q
    refine zR_aload_n d_Packer_countSymbols_99 rfl rfl ?_
    refine zR_iload d_Packer_countSymbols_100 rfl ?_
    refine zR_callV (Y' := Y_Text_get) (n := 1) (A := [.inl ((mem 35 x3.toNatClampNeg) + x4)]) (b := c) (S := [.inr q2]) v_Text_get g_85 hc.1 cl_Text rfl d_Packer_countSymbols_102 rfl (Nat.le_of_ble_eq_true rfl) rfl (zR_cons ?_ h)
    rintro r_ m3 ⟨y4, rfl, h⟩
    show zR κ (d + 1) Y_Packer_countSymbols 105 [some (.inr 6), some (.inr c), some (.inl x2), some (.inl x3), some (.inl x4), some (.inl ((mem 35 x3.toNatClampNeg) + x4))] [.inl y4, .inr q2] m3 Q
    obtain ⟨⟨fs_, hsh_⟩, h⟩ := h
    refine zR_callV (Y' := Y_Code_countOnce) (n := 1) (A := [.inl y4]) (b := q2) (S := []) v_Code_countOnce g_88 hsh_ cl_Code rfl d_Packer_countSymbols_105 rfl (Nat.le_of_ble_eq_true rfl) rfl (zR_cons ?_ h)
    rintro r_ m5 ⟨rfl, h⟩
    show zR κ (d + 1) Y_Packer_countSymbols 108 [some (.inr 6), some (.inr c), some (.inl x2), some (.inl x3), some (.inl x4), some (.inl ((mem 35 x3.toNatClampNeg) + x4))] [] m5 Q
    refine zR_iinc (v := 1) d_Packer_countSymbols_108 rfl (by decide) (by decide) ?_
    refine zR_goto (tgt := 60) d_Packer_countSymbols_111 (by decide) ?_
    refine zR_drop 5 ?_
    exact h
theorem w_Packer_writeCommand_0 {κ : zK} {d : Nat} {mem : zM} {Q : Option zV → zM → Prop} {c : Nat} {x3 x4 : Int32} (hc : is_Text c)
    (h : zR κ d Y_Plan_insertSymbolOf 0 [some (.inr 31), some (.inl x4), none] [] mem (fun r m1 => ∃ y2 : Int32, r = some (.inl y2) ∧ vp_in x4 48 ∧ zR κ d Y_Plan_commandSymbolOf 0 [some (.inr 31), some (.inl x4)] [] m1 (fun r m3 => ∃ y4 : Int32, r = some (.inl y4) ∧ zR κ d Y_Code_writeWord 0 [some (.inr 21), some (.inr 3), some (.inl y4), none] [] m3 (fun r m5 => r = none ∧ vp_in x4 48 ∧ vp_in y2 4 ∧ vp_in y2 4 ∧ zR κ d Y_BitStream_give 0 [some (.inr 3), some (.inl ((m5 36 x4.toNatClampNeg) - (tv_0.getD y2.toNatClampNeg 0))), some (.inl (tv_1.getD y2.toNatClampNeg 0)), none, none, none] [] m5 (fun r m6 => r = none ∧ vp_in x4 48 ∧ vp_in (m1 37 x4.toNatClampNeg) 8 ∧ vp_in (m1 37 x4.toNatClampNeg) 8 ∧ zR κ d Y_BitStream_give 0 [some (.inr 3), some (.inl ((m6 38 x4.toNatClampNeg) - (tv_2.getD (m1 37 x4.toNatClampNeg).toNatClampNeg 0))), some (.inl (tv_3.getD (m1 37 x4.toNatClampNeg).toNatClampNeg 0)), none, none, none] [] m6 (fun r m7 => r = none ∧ zR κ (d + 1) Y_Packer_writeCommand 100 [some (.inr 6), some (.inr c), some (.inr 3), some (.inl x3), some (.inl x4), some (.inl y2), some (.inl (m1 37 x4.toNatClampNeg)), some (.inl 0), none] [] m7 Q)))))) : zR κ (d + 1) Y_Packer_writeCommand 0 [some (.inr 6), some (.inr c), some (.inr 3), some (.inl x3), some (.inl x4), none, none, none, none] [] mem Q := by
  refine zR_aload_n d_Packer_writeCommand_0 rfl rfl ?_
  refine zR_getR (j := 3) d_Packer_writeCommand_1 sh_6 cl_Packer rfl (by decide) g_64 ?_
  refine zR_iload d_Packer_writeCommand_4 rfl ?_
  refine zR_callV (Y' := Y_Plan_insertSymbolOf) (n := 1) (A := [.inl x4]) (b := 31) (S := []) v_Plan_insertSymbolOf g_93 sh_31 cl_Plan rfl d_Packer_writeCommand_6 rfl (Nat.le_of_ble_eq_true rfl) rfl (zR_cons ?_ h)
  rintro r_ m1 ⟨y2, rfl, h⟩
  show zR κ (d + 1) Y_Packer_writeCommand 9 [some (.inr 6), some (.inr c), some (.inr 3), some (.inl x3), some (.inl x4), none, none, none, none] [.inl y2] m1 Q
  refine zR_istore d_Packer_writeCommand_9 (by decide) ?_
  refine zR_aload_n d_Packer_writeCommand_11 rfl rfl ?_
  refine zR_getR (j := 3) d_Packer_writeCommand_12 sh_6 cl_Packer rfl (by decide) g_64 ?_
  refine zR_getRN (j := 4) d_Packer_writeCommand_15 sh_31 cl_Plan rfl (by decide) n_94 ?_
  refine zR_iload d_Packer_writeCommand_18 rfl ?_
  refine zR_iaload d_Packer_writeCommand_20 sh_37 h.1 rfl ?_
  replace h := h.2
  refine zR_istore d_Packer_writeCommand_21 (by decide) ?_
  refine zR_aload_n d_Packer_writeCommand_23 rfl rfl ?_
  refine zR_getR (j := 2) d_Packer_writeCommand_24 sh_6 cl_Packer rfl (by decide) g_75 ?_
  refine zR_getRN (j := 2) d_Packer_writeCommand_27 sh_10 cl_Codes rfl (by decide) n_80 ?_
  refine zR_aload_n d_Packer_writeCommand_30 rfl rfl ?_
  refine zR_aload_n d_Packer_writeCommand_31 rfl rfl ?_
  refine zR_getR (j := 3) d_Packer_writeCommand_32 sh_6 cl_Packer rfl (by decide) g_64 ?_
  refine zR_iload d_Packer_writeCommand_35 rfl ?_
  refine zR_callV (Y' := Y_Plan_commandSymbolOf) (n := 1) (A := [.inl x4]) (b := 31) (S := [.inr 3, .inr 21]) v_Plan_commandSymbolOf g_87 sh_31 cl_Plan rfl d_Packer_writeCommand_37 rfl (Nat.le_of_ble_eq_true rfl) rfl (zR_cons ?_ h)
  rintro r_ m3 ⟨y4, rfl, h⟩
  show zR κ (d + 1) Y_Packer_writeCommand 40 [some (.inr 6), some (.inr c), some (.inr 3), some (.inl x3), some (.inl x4), some (.inl y2), some (.inl (m1 37 x4.toNatClampNeg)), none, none] [.inl y4, .inr 3, .inr 21] m3 Q
  refine zR_callV (Y' := Y_Code_writeWord) (n := 2) (A := [.inr 3, .inl y4]) (b := 21) (S := []) v_Code_writeWord g_95 sh_21 cl_Code rfl d_Packer_writeCommand_40 rfl (Nat.le_of_ble_eq_true rfl) rfl (zR_cons ?_ h)
  rintro r_ m5 ⟨rfl, h⟩
  show zR κ (d + 1) Y_Packer_writeCommand 43 [some (.inr 6), some (.inr c), some (.inr 3), some (.inl x3), some (.inl x4), some (.inl y2), some (.inl (m1 37 x4.toNatClampNeg)), none, none] [] m5 Q
  refine zR_aload_n d_Packer_writeCommand_43 rfl rfl ?_
  refine zR_aload_n d_Packer_writeCommand_44 rfl rfl ?_
  refine zR_getR (j := 3) d_Packer_writeCommand_45 sh_6 cl_Packer rfl (by decide) g_64 ?_
  refine zR_getRN (j := 3) d_Packer_writeCommand_48 sh_31 cl_Plan rfl (by decide) n_90 ?_
  refine zR_iload d_Packer_writeCommand_51 rfl ?_
  refine zR_iaload d_Packer_writeCommand_53 sh_36 h.1 rfl ?_
  replace h := h.2
  refine zR_getT (t := 0) d_Packer_writeCommand_54 tb_0 n_96 ?_
  refine zR_iload d_Packer_writeCommand_57 rfl ?_
  refine zR_tload (t := 0) d_Packer_writeCommand_59 tb_0 h.1 rfl ?_
  replace h := h.2
  refine zR_isub d_Packer_writeCommand_60 ?_
  refine zR_getT (t := 1) d_Packer_writeCommand_61 tb_1 n_97 ?_
  refine zR_iload d_Packer_writeCommand_64 rfl ?_
  refine zR_tload (t := 1) d_Packer_writeCommand_66 tb_1 h.1 rfl ?_
  replace h := h.2
  refine zR_callV (Y' := Y_BitStream_give) (n := 2) (A := [.inl ((m5 36 x4.toNatClampNeg) - (tv_0.getD y2.toNatClampNeg 0)), .inl (tv_1.getD y2.toNatClampNeg 0)]) (b := 3) (S := []) v_BitStream_give g_72 sh_3 cl_BitStream rfl d_Packer_writeCommand_67 rfl (Nat.le_of_ble_eq_true rfl) rfl (zR_cons ?_ h)
  rintro r_ m6 ⟨rfl, h⟩
  show zR κ (d + 1) Y_Packer_writeCommand 70 [some (.inr 6), some (.inr c), some (.inr 3), some (.inl x3), some (.inl x4), some (.inl y2), some (.inl (m1 37 x4.toNatClampNeg)), none, none] [] m6 Q
  refine zR_aload_n d_Packer_writeCommand_70 rfl rfl ?_
  refine zR_aload_n d_Packer_writeCommand_71 rfl rfl ?_
  refine zR_getR (j := 3) d_Packer_writeCommand_72 sh_6 cl_Packer rfl (by decide) g_64 ?_
  refine zR_getRN (j := 5) d_Packer_writeCommand_75 sh_31 cl_Plan rfl (by decide) n_98 ?_
  refine zR_iload d_Packer_writeCommand_78 rfl ?_
  refine zR_iaload d_Packer_writeCommand_80 sh_38 h.1 rfl ?_
  replace h := h.2
  refine zR_getT (t := 2) d_Packer_writeCommand_81 tb_2 n_99 ?_
  refine zR_iload d_Packer_writeCommand_84 rfl ?_
  refine zR_tload (t := 2) d_Packer_writeCommand_86 tb_2 h.1 rfl ?_
  replace h := h.2
  refine zR_isub d_Packer_writeCommand_87 ?_
  refine zR_getT (t := 3) d_Packer_writeCommand_88 tb_3 n_100 ?_
  refine zR_iload d_Packer_writeCommand_91 rfl ?_
  refine zR_tload (t := 3) d_Packer_writeCommand_93 tb_3 h.1 rfl ?_
  replace h := h.2
  refine zR_callV (Y' := Y_BitStream_give) (n := 2) (A := [.inl ((m6 38 x4.toNatClampNeg) - (tv_2.getD (m1 37 x4.toNatClampNeg).toNatClampNeg 0)), .inl (tv_3.getD (m1 37 x4.toNatClampNeg).toNatClampNeg 0)]) (b := 3) (S := []) v_BitStream_give g_72 sh_3 cl_BitStream rfl d_Packer_writeCommand_94 rfl (Nat.le_of_ble_eq_true rfl) rfl (zR_cons ?_ h)
  rintro r_ m7 ⟨rfl, h⟩
  show zR κ (d + 1) Y_Packer_writeCommand 97 [some (.inr 6), some (.inr c), some (.inr 3), some (.inl x3), some (.inl x4), some (.inl y2), some (.inl (m1 37 x4.toNatClampNeg)), none, none] [] m7 Q
  refine zR_iconst (v := 0) d_Packer_writeCommand_97 (by decide) ?_
  refine zR_istore d_Packer_writeCommand_98 (by decide) ?_
  exact h
theorem w_Packer_writeCommand_100 {κ : zK} {d : Nat} {mem : zM} {Q : Option zV → zM → Prop} {c : Nat} {x3 x4 x5 x6 x7 : Int32} (hc : is_Text c)
    (h : vp_in x4 48 ∧ (((mem 36 x4.toNatClampNeg) ≤ x7 → vp_in x4 48 ∧ (((mem 39 x4.toNatClampNeg) = (-1) → Q none mem) ∧ (¬ (mem 39 x4.toNatClampNeg) = (-1) → zR κ d Y_Code_writeWord 0 [some (.inr 26), some (.inr 3), some (.inl (mem 39 x4.toNatClampNeg)), none] [] mem (fun r m1 => r = none ∧ vp_in x4 48 ∧ vp_in (mem 39 x4.toNatClampNeg) 14 ∧ vp_in (mem 39 x4.toNatClampNeg) 14 ∧ zR κ d Y_BitStream_give 0 [some (.inr 3), some (.inl ((m1 40 x4.toNatClampNeg) - (tv_4.getD (mem 39 x4.toNatClampNeg).toNatClampNeg 0))), some (.inl (tv_5.getD (mem 39 x4.toNatClampNeg).toNatClampNeg 0)), none, none, none] [] m1 (fun r m2 => r = none ∧ Q none m2))))) ∧ (¬ (mem 36 x4.toNatClampNeg) ≤ x7 → vp_in x4 48 ∧ zR κ d Y_Codes_literalAt 0 [some (.inr 10), some (.inr c), some (.inl ((mem 35 x4.toNatClampNeg) + x7)), some (.inl x3)] [] mem (fun r m3 => ∃ q4 : Nat, r = some (.inr q4) ∧ zR κ d Y_Text_get 0 [some (.inr c), some (.inl ((mem 35 x4.toNatClampNeg) + x7))] [] m3 (fun r m5 => ∃ y6 : Int32, r = some (.inl y6) ∧ (∃ fs, shT[q4]? = some (.inr (1, fs))) ∧ zR κ d Y_Code_writeWord 0 [some (.inr q4), some (.inr 3), some (.inl y6), none] [] m5 (fun r m7 => r = none ∧ zR κ (d + 1) Y_Packer_writeCommand 100 [some (.inr 6), some (.inr c), some (.inr 3), some (.inl x3), some (.inl x4), some (.inl x5), some (.inl x6), some (.inl (x7 + 1)), none] [] m7 Q)))))) : zR κ (d + 1) Y_Packer_writeCommand 100 [some (.inr 6), some (.inr c), some (.inr 3), some (.inl x3), some (.inl x4), some (.inl x5), some (.inl x6), some (.inl x7), none] [] mem Q := by
  refine zR_iload d_Packer_writeCommand_100 rfl ?_
  refine zR_aload_n d_Packer_writeCommand_102 rfl rfl ?_
  refine zR_getR (j := 3) d_Packer_writeCommand_103 sh_6 cl_Packer rfl (by decide) g_64 ?_
  refine zR_getRN (j := 3) d_Packer_writeCommand_106 sh_31 cl_Plan rfl (by decide) n_90 ?_
  refine zR_iload d_Packer_writeCommand_109 rfl ?_
  refine zR_iaload d_Packer_writeCommand_111 sh_36 h.1 rfl ?_
  replace h := h.2
  refine zR_icmp_ge (tgt := 157) d_Packer_writeCommand_112 (by decide) (fun h1 => ?_) (fun h1 => ?_)
  · replace h := h.1 h1
    refine zR_aload_n d_Packer_writeCommand_157 rfl rfl ?_
    refine zR_getR (j := 3) d_Packer_writeCommand_158 sh_6 cl_Packer rfl (by decide) g_64 ?_
    refine zR_getRN (j := 6) d_Packer_writeCommand_161 sh_31 cl_Plan rfl (by decide) n_89 ?_
    refine zR_iload d_Packer_writeCommand_164 rfl ?_
    refine zR_iaload d_Packer_writeCommand_166 sh_39 h.1 rfl ?_
    replace h := h.2
    refine zR_istore d_Packer_writeCommand_167 (by decide) ?_
    refine zR_iload d_Packer_writeCommand_169 rfl ?_
    refine zR_iconst (v := (-1)) d_Packer_writeCommand_171 (by decide) ?_
    refine zR_icmp_eq (tgt := 215) d_Packer_writeCommand_172 (by decide) (fun h1 => ?_) (fun h1 => ?_)
    · replace h := h.1 h1
      exact zR_return rfl d_Packer_writeCommand_215 h
    · replace h := h.2 h1
      refine zR_aload_n d_Packer_writeCommand_175 rfl rfl ?_
      refine zR_getR (j := 2) d_Packer_writeCommand_176 sh_6 cl_Packer rfl (by decide) g_75 ?_
      refine zR_getRN (j := 3) d_Packer_writeCommand_179 sh_10 cl_Codes rfl (by decide) n_81 ?_
      refine zR_aload_n d_Packer_writeCommand_182 rfl rfl ?_
      refine zR_iload d_Packer_writeCommand_183 rfl ?_
      refine zR_callV (Y' := Y_Code_writeWord) (n := 2) (A := [.inr 3, .inl (mem 39 x4.toNatClampNeg)]) (b := 26) (S := []) v_Code_writeWord g_95 sh_26 cl_Code rfl d_Packer_writeCommand_185 rfl (Nat.le_of_ble_eq_true rfl) rfl (zR_cons ?_ h)
      rintro r_ m1 ⟨rfl, h⟩
      show zR κ (d + 1) Y_Packer_writeCommand 188 [some (.inr 6), some (.inr c), some (.inr 3), some (.inl x3), some (.inl x4), some (.inl x5), some (.inl x6), some (.inl (mem 39 x4.toNatClampNeg)), none] [] m1 Q
      refine zR_aload_n d_Packer_writeCommand_188 rfl rfl ?_
      refine zR_aload_n d_Packer_writeCommand_189 rfl rfl ?_
      refine zR_getR (j := 3) d_Packer_writeCommand_190 sh_6 cl_Packer rfl (by decide) g_64 ?_
      refine zR_getRN (j := 7) d_Packer_writeCommand_193 sh_31 cl_Plan rfl (by decide) n_101 ?_
      refine zR_iload d_Packer_writeCommand_196 rfl ?_
      refine zR_iaload d_Packer_writeCommand_198 sh_40 h.1 rfl ?_
      replace h := h.2
      refine zR_getT (t := 4) d_Packer_writeCommand_199 tb_4 n_102 ?_
      refine zR_iload d_Packer_writeCommand_202 rfl ?_
      refine zR_tload (t := 4) d_Packer_writeCommand_204 tb_4 h.1 rfl ?_
      replace h := h.2
      refine zR_isub d_Packer_writeCommand_205 ?_
      refine zR_getT (t := 5) d_Packer_writeCommand_206 tb_5 n_103 ?_
      refine zR_iload d_Packer_writeCommand_209 rfl ?_
      refine zR_tload (t := 5) d_Packer_writeCommand_211 tb_5 h.1 rfl ?_
      replace h := h.2
      refine zR_callV (Y' := Y_BitStream_give) (n := 2) (A := [.inl ((m1 40 x4.toNatClampNeg) - (tv_4.getD (mem 39 x4.toNatClampNeg).toNatClampNeg 0)), .inl (tv_5.getD (mem 39 x4.toNatClampNeg).toNatClampNeg 0)]) (b := 3) (S := []) v_BitStream_give g_72 sh_3 cl_BitStream rfl d_Packer_writeCommand_212 rfl (Nat.le_of_ble_eq_true rfl) rfl (zR_cons ?_ h)
      rintro r_ m2 ⟨rfl, h⟩
      show zR κ (d + 1) Y_Packer_writeCommand 215 [some (.inr 6), some (.inr c), some (.inr 3), some (.inl x3), some (.inl x4), some (.inl x5), some (.inl x6), some (.inl (mem 39 x4.toNatClampNeg)), none] [] m2 Q
      exact zR_return rfl d_Packer_writeCommand_215 h
  · replace h := h.2 h1
    refine zR_aload_n d_Packer_writeCommand_115 rfl rfl ?_
    refine zR_getR (j := 3) d_Packer_writeCommand_116 sh_6 cl_Packer rfl (by decide) g_64 ?_
    refine zR_getRN (j := 2) d_Packer_writeCommand_119 sh_31 cl_Plan rfl (by decide) n_91 ?_
    refine zR_iload d_Packer_writeCommand_122 rfl ?_
    refine zR_iaload d_Packer_writeCommand_124 sh_35 h.1 rfl ?_
    replace h := h.2
    refine zR_iload d_Packer_writeCommand_125 rfl ?_
    refine zR_iadd d_Packer_writeCommand_127 ?_
    refine zR_istore d_Packer_writeCommand_128 (by decide) ?_
    refine zR_aload_n d_Packer_writeCommand_130 rfl rfl ?_
    refine zR_getR (j := 2) d_Packer_writeCommand_131 sh_6 cl_Packer rfl (by decide) g_75 ?_
    refine zR_aload_n d_Packer_writeCommand_134 rfl rfl ?_
    refine zR_iload d_Packer_writeCommand_135 rfl ?_
    refine zR_iload_n d_Packer_writeCommand_137 rfl rfl ?_
    refine zR_callV (Y' := Y_Codes_literalAt) (n := 3) (A := [.inr c, .inl ((mem 35 x4.toNatClampNeg) + x7), .inl x3]) (b := 10) (S := []) v_Codes_literalAt g_92 sh_10 cl_Codes rfl d_Packer_writeCommand_138 rfl (Nat.le_of_ble_eq_true rfl) rfl (zR_cons ?_ h)
    rintro r_ m3 ⟨q4, rfl, h⟩
    show zR κ (d + 1) Y_Packer_writeCommand 141 [some (.inr 6), some (.inr c), some (.inr 3), some (.inl x3), some (.inl x4), some (.inl x5), some (.inl x6), some (.inl x7), some (.inl ((mem 35 x4.toNatClampNeg) + x7))] [.inr q4] m3 Q
    refine zR_aload_n d_Packer_writeCommand_141 rfl rfl ?_
    refine zR_aload_n d_Packer_writeCommand_142 rfl rfl ?_
    refine zR_iload d_Packer_writeCommand_143 rfl ?_
    refine zR_callV (Y' := Y_Text_get) (n := 1) (A := [.inl ((mem 35 x4.toNatClampNeg) + x7)]) (b := c) (S := [.inr 3, .inr q4]) v_Text_get g_85 hc.1 cl_Text rfl d_Packer_writeCommand_145 rfl (Nat.le_of_ble_eq_true rfl) rfl (zR_cons ?_ h)
    rintro r_ m5 ⟨y6, rfl, h⟩
    show zR κ (d + 1) Y_Packer_writeCommand 148 [some (.inr 6), some (.inr c), some (.inr 3), some (.inl x3), some (.inl x4), some (.inl x5), some (.inl x6), some (.inl x7), some (.inl ((mem 35 x4.toNatClampNeg) + x7))] [.inl y6, .inr 3, .inr q4] m5 Q
    obtain ⟨⟨fs_, hsh_⟩, h⟩ := h
    refine zR_callV (Y' := Y_Code_writeWord) (n := 2) (A := [.inr 3, .inl y6]) (b := q4) (S := []) v_Code_writeWord g_95 hsh_ cl_Code rfl d_Packer_writeCommand_148 rfl (Nat.le_of_ble_eq_true rfl) rfl (zR_cons ?_ h)
    rintro r_ m7 ⟨rfl, h⟩
    show zR κ (d + 1) Y_Packer_writeCommand 151 [some (.inr 6), some (.inr c), some (.inr 3), some (.inl x3), some (.inl x4), some (.inl x5), some (.inl x6), some (.inl x7), some (.inl ((mem 35 x4.toNatClampNeg) + x7))] [] m7 Q
    refine zR_iinc (v := 1) d_Packer_writeCommand_151 rfl (by decide) (by decide) ?_
    refine zR_goto (tgt := 100) d_Packer_writeCommand_154 (by decide) ?_
    refine zR_drop 8 ?_
    exact h
