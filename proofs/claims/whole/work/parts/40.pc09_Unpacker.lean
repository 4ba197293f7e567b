/-! pieces of RingPacker$Unpacker -/
theorem w_Unpacker_readAll_0 {κ : zK} {d : Nat} {mem : zM} {Q : Option zV → zM → Prop}
    (h : zR κ d Y_Text_makeEmpty 0 [some (.inr 42)] [] mem (fun r m1 => r = none ∧ zR κ d Y_Counts_reset 0 [some (.inr 44)] [] m1 (fun r m2 => r = none ∧ zR κ d Y_Ring_reset 0 [some (.inr 45), none] [] m2 (fun r m3 => r = none ∧ zR κ d Y_BitStream_startReading 0 [some (.inr 3)] [] m3 (fun r m4 => r = none ∧ zR κ (d + 1) Y_Unpacker_readAll 29 [some (.inr 41), some (.inr 3), some (.inl 0), some (.inl 0), none, none, none] [] m4 Q))))) : zR κ (d + 1) Y_Unpacker_readAll 0 [some (.inr 41), some (.inr 3), none, none, none, none, none] [] mem Q := by
  refine zR_aload_n d_Unpacker_readAll_0 rfl rfl ?_
  refine zR_getR (j := 0) d_Unpacker_readAll_1 sh_41 cl_Unpacker rfl (by decide) g_148 ?_
  refine zR_callV (Y' := Y_Text_makeEmpty) (n := 0) (A := []) (b := 42) (S := []) v_Text_makeEmpty g_149 sh_42 cl_Text rfl d_Unpacker_readAll_4 rfl (Nat.le_of_ble_eq_true rfl) rfl (zR_cons ?_ h)
  rintro r_ m1 ⟨rfl, h⟩
  show zR κ (d + 1) Y_Unpacker_readAll 7 [some (.inr 41), some (.inr 3), none, none, none, none, none] [] m1 Q
  refine zR_aload_n d_Unpacker_readAll_7 rfl rfl ?_
  refine zR_getR (j := 1) d_Unpacker_readAll_8 sh_41 cl_Unpacker rfl (by decide) g_150 ?_
  refine zR_callV (Y' := Y_Counts_reset) (n := 0) (A := []) (b := 44) (S := []) v_Counts_reset g_151 sh_44 cl_Counts rfl d_Unpacker_readAll_11 rfl (Nat.le_of_ble_eq_true rfl) rfl (zR_cons ?_ h)
  rintro r_ m2 ⟨rfl, h⟩
  show zR κ (d + 1) Y_Unpacker_readAll 14 [some (.inr 41), some (.inr 3), none, none, none, none, none] [] m2 Q
  refine zR_aload_n d_Unpacker_readAll_14 rfl rfl ?_
  refine zR_getR (j := 2) d_Unpacker_readAll_15 sh_41 cl_Unpacker rfl (by decide) g_152 ?_
  refine zR_callV (Y' := Y_Ring_reset) (n := 0) (A := []) (b := 45) (S := []) v_Ring_reset g_153 sh_45 cl_Ring rfl d_Unpacker_readAll_18 rfl (Nat.le_of_ble_eq_true rfl) rfl (zR_cons ?_ h)
  rintro r_ m3 ⟨rfl, h⟩
  show zR κ (d + 1) Y_Unpacker_readAll 21 [some (.inr 41), some (.inr 3), none, none, none, none, none] [] m3 Q
  refine zR_aload_n d_Unpacker_readAll_21 rfl rfl ?_
  refine zR_callV (Y' := Y_BitStream_startReading) (n := 0) (A := []) (b := 3) (S := []) v_BitStream_startReading g_154 sh_3 cl_BitStream rfl d_Unpacker_readAll_22 rfl (Nat.le_of_ble_eq_true rfl) rfl (zR_cons ?_ h)
  rintro r_ m4 ⟨rfl, h⟩
  show zR κ (d + 1) Y_Unpacker_readAll 25 [some (.inr 41), some (.inr 3), none, none, none, none, none] [] m4 Q
  refine zR_iconst (v := 0) d_Unpacker_readAll_25 (by decide) ?_
  refine zR_istore_n d_Unpacker_readAll_26 rfl (by decide) ?_
  refine zR_iconst (v := 0) d_Unpacker_readAll_27 (by decide) ?_
  refine zR_istore_n d_Unpacker_readAll_28 rfl (by decide) ?_
  exact h
theorem w_Unpacker_readAll_29 {κ : zK} {d : Nat} {mem : zM} {Q : Option zV → zM → Prop} {x2 x3 : Int32}
    (h : ((96 < x3 → zR κ (d + 1) Y_Unpacker_readAll 157 [some (.inr 41), some (.inr 3), some (.inl x2), some (.inl x3), none, none, none] [] mem Q) ∧ (¬ 96 < x3 → ((¬ x2 = 0 → zR κ (d + 1) Y_Unpacker_readAll 157 [some (.inr 41), some (.inr 3), some (.inl x2), some (.inl x3), none, none, none] [] mem Q) ∧ (x2 = 0 → zR κ d Y_BitStream_take 0 [some (.inr 3), some (.inl 1), none, none] [] mem (fun r m1 => ∃ y2 : Int32, r = some (.inl y2) ∧ ((¬ y2 = 1 → zR κ (d + 1) Y_Unpacker_readAll 53 [some (.inr 41), some (.inr 3), some (.inl x2), some (.inl x3), none, none, none] [.inl 0] m1 Q) ∧ (y2 = 1 → zR κ (d + 1) Y_Unpacker_readAll 53 [some (.inr 41), some (.inr 3), some (.inl x2), some (.inl x3), none, none, none] [.inl 1] m1 Q)))))))) : zR κ (d + 1) Y_Unpacker_readAll 29 [some (.inr 41), some (.inr 3), some (.inl x2), some (.inl x3), none, none, none] [] mem Q := by
  refine zR_iload_n d_Unpacker_readAll_29 rfl rfl ?_
  refine zR_bipush (v := 96) d_Unpacker_readAll_30 (by decide) ?_
  refine zR_icmp_gt (tgt := 157) d_Unpacker_readAll_32 (by decide) (fun h1 => ?_) (fun h1 => ?_)
  · replace h := h.1 h1
    exact h
  · replace h := h.2 h1
    refine zR_iload_n d_Unpacker_readAll_35 rfl rfl ?_
    refine zR_if_ne (tgt := 157) d_Unpacker_readAll_36 (by decide) (fun h1 => ?_) (fun h1 => ?_)
    · replace h := h.1 h1
      exact h
    · replace h := h.2 h1
      refine zR_aload_n d_Unpacker_readAll_39 rfl rfl ?_
      refine zR_iconst (v := 1) d_Unpacker_readAll_40 (by decide) ?_
      refine zR_callV (Y' := Y_BitStream_take) (n := 1) (A := [.inl 1]) (b := 3) (S := []) v_BitStream_take g_155 sh_3 cl_BitStream rfl d_Unpacker_readAll_41 rfl (Nat.le_of_ble_eq_true rfl) rfl (zR_cons ?_ h)
      rintro r_ m1 ⟨y2, rfl, h⟩
      show zR κ (d + 1) Y_Unpacker_readAll 44 [some (.inr 41), some (.inr 3), some (.inl x2), some (.inl x3), none, none, none] [.inl y2] m1 Q
      refine zR_iconst (v := 1) d_Unpacker_readAll_44 (by decide) ?_
      refine zR_icmp_ne (tgt := 52) d_Unpacker_readAll_45 (by decide) (fun h1 => ?_) (fun h1 => ?_)
      · replace h := h.1 h1
        refine zR_iconst (v := 0) d_Unpacker_readAll_52 (by decide) ?_
        exact h
      · replace h := h.2 h1
        refine zR_iconst (v := 1) d_Unpacker_readAll_48 (by decide) ?_
        refine zR_goto (tgt := 53) d_Unpacker_readAll_49 (by decide) ?_
        exact h
theorem w_Unpacker_readAll_53 {κ : zK} {d : Nat} {mem : zM} {Q : Option zV → zM → Prop} {x2 x3 s0 : Int32}
    (h : ((s0 = 0 → zR κ (d + 1) Y_Unpacker_readAll 70 [some (.inr 41), some (.inr 3), some (.inl s0), some (.inl x3), none, none, none] [] mem Q) ∧ (¬ s0 = 0 → zR κ d Y_BitStream_take 0 [some (.inr 3), some (.inl 1), none, none] [] mem (fun r m1 => ∃ y2 : Int32, r = some (.inl y2) ∧ ((¬ y2 = 1 → zR κ (d + 1) Y_Unpacker_readAll 70 [some (.inr 41), some (.inr 3), some (.inl s0), some (.inl x3), none, none, none] [] m1 Q) ∧ (y2 = 1 → zR κ (d + 1) Y_Unpacker_readAll 157 [some (.inr 41), some (.inr 3), some (.inl s0), some (.inl x3), none, none, none] [] m1 Q)))))) : zR κ (d + 1) Y_Unpacker_readAll 53 [some (.inr 41), some (.inr 3), some (.inl x2), some (.inl x3), none, none, none] [.inl s0] mem Q := by
  refine zR_istore_n d_Unpacker_readAll_53 rfl (by decide) ?_
  refine zR_iload_n d_Unpacker_readAll_54 rfl rfl ?_
  refine zR_if_eq (tgt := 70) d_Unpacker_readAll_55 (by decide) (fun h1 => ?_) (fun h1 => ?_)
  · replace h := h.1 h1
    exact h
  · replace h := h.2 h1
    refine zR_aload_n d_Unpacker_readAll_58 rfl rfl ?_
    refine zR_iconst (v := 1) d_Unpacker_readAll_59 (by decide) ?_
    refine zR_callV (Y' := Y_BitStream_take) (n := 1) (A := [.inl 1]) (b := 3) (S := []) v_BitStream_take g_155 sh_3 cl_BitStream rfl d_Unpacker_readAll_60 rfl (Nat.le_of_ble_eq_true rfl) rfl (zR_cons ?_ h)
    rintro r_ m1 ⟨y2, rfl, h⟩
    show zR κ (d + 1) Y_Unpacker_readAll 63 [some (.inr 41), some (.inr 3), some (.inl s0), some (.inl x3), none, none, none] [.inl y2] m1 Q
    refine zR_iconst (v := 1) d_Unpacker_readAll_63 (by decide) ?_
    refine zR_icmp_ne (tgt := 70) d_Unpacker_readAll_64 (by decide) (fun h1 => ?_) (fun h1 => ?_)
    · replace h := h.1 h1
      exact h
    · replace h := h.2 h1
      refine zR_goto (tgt := 157) d_Unpacker_readAll_67 (by decide) ?_
      exact h
theorem w_Unpacker_readAll_70 {κ : zK} {d : Nat} {mem : zM} {Q : Option zV → zM → Prop} {x2 x3 : Int32}
    (h : zR κ d Y_BitStream_take 0 [some (.inr 3), some (.inl 1), none, none] [] mem (fun r m1 => ∃ y2 : Int32, r = some (.inl y2) ∧ ((¬ y2 = 1 → zR κ (d + 1) Y_Unpacker_readAll 84 [some (.inr 41), some (.inr 3), some (.inl x2), some (.inl x3), none, none, none] [.inl 0] m1 Q) ∧ (y2 = 1 → zR κ (d + 1) Y_Unpacker_readAll 84 [some (.inr 41), some (.inr 3), some (.inl x2), some (.inl x3), none, none, none] [.inl 1] m1 Q)))) : zR κ (d + 1) Y_Unpacker_readAll 70 [some (.inr 41), some (.inr 3), some (.inl x2), some (.inl x3), none, none, none] [] mem Q := by
  refine zR_aload_n d_Unpacker_readAll_70 rfl rfl ?_
  refine zR_iconst (v := 1) d_Unpacker_readAll_71 (by decide) ?_
  refine zR_callV (Y' := Y_BitStream_take) (n := 1) (A := [.inl 1]) (b := 3) (S := []) v_BitStream_take g_155 sh_3 cl_BitStream rfl d_Unpacker_readAll_72 rfl (Nat.le_of_ble_eq_true rfl) rfl (zR_cons ?_ h)
  rintro r_ m1 ⟨y2, rfl, h⟩
  show zR κ (d + 1) Y_Unpacker_readAll 75 [some (.inr 41), some (.inr 3), some (.inl x2), some (.inl x3), none, none, none] [.inl y2] m1 Q
  refine zR_iconst (v := 1) d_Unpacker_readAll_75 (by decide) ?_
  refine zR_icmp_ne (tgt := 83) d_Unpacker_readAll_76 (by decide) (fun h1 => ?_) (fun h1 => ?_)
  · replace h := h.1 h1
    refine zR_iconst (v := 0) d_Unpacker_readAll_83 (by decide) ?_
    exact h
  · replace h := h.2 h1
    refine zR_iconst (v := 1) d_Unpacker_readAll_79 (by decide) ?_
    refine zR_goto (tgt := 84) d_Unpacker_readAll_80 (by decide) ?_
    exact h
theorem w_Unpacker_readAll_84 {κ : zK} {d : Nat} {mem : zM} {Q : Option zV → zM → Prop} {x2 x3 s0 : Int32}
    (h : zR κ d Y_BitStream_take 0 [some (.inr 3), some (.inl 6), none, none] [] mem (fun r m1 => ∃ y2 : Int32, r = some (.inl y2) ∧ ((¬ (m1 3 3) = 0 → Q (some (.inl 0)) m1) ∧ ((m1 3 3) = 0 → (((((mem 42 1) + y2) + 1) ≤ 96 → ((s0 = 0 → zR κ d Y_Unpacker_readRaw 0 [some (.inr 41), some (.inr 3), some (.inl (((mem 42 1) + y2) + 1)), none] [] m1 (fun r m3 => ∃ y4 : Int32, r = some (.inl y4) ∧ ((¬ y4 = 0 → zR κ (d + 1) Y_Unpacker_readAll 29 [some (.inr 41), some (.inr 3), some (.inl x2), some (.inl (x3 + 1)), none, none, none] [] m3 Q) ∧ (y4 = 0 → Q (some (.inl 0)) m3)))) ∧ (¬ s0 = 0 → zR κ d Y_Unpacker_readCoded 0 [some (.inr 41), some (.inr 3), some (.inl (((mem 42 1) + y2) + 1)), none, none] [] m1 (fun r m5 => ∃ y6 : Int32, r = some (.inl y6) ∧ ((¬ y6 = 0 → zR κ (d + 1) Y_Unpacker_readAll 29 [some (.inr 41), some (.inr 3), some (.inl x2), some (.inl (x3 + 1)), none, none, none] [] m5 Q) ∧ (y6 = 0 → Q (some (.inl 0)) m5)))))) ∧ (¬ (((mem 42 1) + y2) + 1) ≤ 96 → Q (some (.inl 0)) m1)))))) : zR κ (d + 1) Y_Unpacker_readAll 84 [some (.inr 41), some (.inr 3), some (.inl x2), some (.inl x3), none, none, none] [.inl s0] mem Q := by
  refine zR_istore d_Unpacker_readAll_84 (by decide) ?_
  refine zR_aload_n d_Unpacker_readAll_86 rfl rfl ?_
  refine zR_getR (j := 0) d_Unpacker_readAll_87 sh_41 cl_Unpacker rfl (by decide) g_148 ?_
  refine zR_getIN (j := 1) d_Unpacker_readAll_90 sh_42 cl_Text rfl (by decide) n_156 ?_
  refine zR_aload_n d_Unpacker_readAll_93 rfl rfl ?_
  refine zR_bipush (v := 6) d_Unpacker_readAll_94 (by decide) ?_
  refine zR_callV (Y' := Y_BitStream_take) (n := 1) (A := [.inl 6]) (b := 3) (S := [.inl (mem 42 1)]) v_BitStream_take g_155 sh_3 cl_BitStream rfl d_Unpacker_readAll_96 rfl (Nat.le_of_ble_eq_true rfl) rfl (zR_cons ?_ h)
  rintro r_ m1 ⟨y2, rfl, h⟩
  show zR κ (d + 1) Y_Unpacker_readAll 99 [some (.inr 41), some (.inr 3), some (.inl x2), some (.inl x3), some (.inl s0), none, none] [.inl y2, .inl (mem 42 1)] m1 Q
  refine zR_iadd d_Unpacker_readAll_99 ?_
  refine zR_iconst (v := 1) d_Unpacker_readAll_100 (by decide) ?_
  refine zR_iadd d_Unpacker_readAll_101 ?_
  refine zR_istore d_Unpacker_readAll_102 (by decide) ?_
  refine zR_aload_n d_Unpacker_readAll_104 rfl rfl ?_
  refine zR_getIN (j := 3) d_Unpacker_readAll_105 sh_3 cl_BitStream rfl (by decide) n_157 ?_
  refine zR_if_ne (tgt := 118) d_Unpacker_readAll_108 (by decide) (fun h1 => ?_) (fun h1 => ?_)
  · replace h := h.1 h1
    refine zR_iconst (v := 0) d_Unpacker_readAll_118 (by decide) ?_
    exact zR_zreturn rfl d_Unpacker_readAll_119 (Or.inl rfl) h
  · replace h := h.2 h1
    refine zR_iload d_Unpacker_readAll_111 rfl ?_
    refine zR_bipush (v := 96) d_Unpacker_readAll_113 (by decide) ?_
    refine zR_icmp_le (tgt := 120) d_Unpacker_readAll_115 (by decide) (fun h1 => ?_) (fun h1 => ?_)
    · replace h := h.1 h1
      refine zR_iload d_Unpacker_readAll_120 rfl ?_
      refine zR_if_eq (tgt := 135) d_Unpacker_readAll_122 (by decide) (fun h1 => ?_) (fun h1 => ?_)
      · replace h := h.1 h1
        refine zR_aload_n d_Unpacker_readAll_135 rfl rfl ?_
        refine zR_aload_n d_Unpacker_readAll_136 rfl rfl ?_
        refine zR_iload d_Unpacker_readAll_137 rfl ?_
        refine zR_callV (Y' := Y_Unpacker_readRaw) (n := 2) (A := [.inr 3, .inl (((mem 42 1) + y2) + 1)]) (b := 41) (S := []) v_Unpacker_readRaw g_158 sh_41 cl_Unpacker rfl d_Unpacker_readAll_139 rfl (Nat.le_of_ble_eq_true rfl) rfl (zR_cons ?_ h)
        rintro r_ m3 ⟨y4, rfl, h⟩
        show zR κ (d + 1) Y_Unpacker_readAll 142 [some (.inr 41), some (.inr 3), some (.inl x2), some (.inl x3), some (.inl s0), some (.inl (((mem 42 1) + y2) + 1)), none] [.inl y4] m3 Q
        refine zR_istore d_Unpacker_readAll_142 (by decide) ?_
        refine zR_iload d_Unpacker_readAll_144 rfl ?_
        refine zR_if_ne (tgt := 151) d_Unpacker_readAll_146 (by decide) (fun h1 => ?_) (fun h1 => ?_)
        · replace h := h.1 h1
          refine zR_iinc (v := 1) d_Unpacker_readAll_151 rfl (by decide) (by decide) ?_
          refine zR_goto (tgt := 29) d_Unpacker_readAll_154 (by decide) ?_
          refine zR_drop 4 ?_
          refine zR_drop 5 ?_
          refine zR_drop 6 ?_
          exact h
        · replace h := h.2 h1
          refine zR_iconst (v := 0) d_Unpacker_readAll_149 (by decide) ?_
          exact zR_zreturn rfl d_Unpacker_readAll_150 (Or.inl rfl) h
      · replace h := h.2 h1
        refine zR_aload_n d_Unpacker_readAll_125 rfl rfl ?_
        refine zR_aload_n d_Unpacker_readAll_126 rfl rfl ?_
        refine zR_iload d_Unpacker_readAll_127 rfl ?_
        refine zR_callV (Y' := Y_Unpacker_readCoded) (n := 2) (A := [.inr 3, .inl (((mem 42 1) + y2) + 1)]) (b := 41) (S := []) v_Unpacker_readCoded g_159 sh_41 cl_Unpacker rfl d_Unpacker_readAll_129 rfl (Nat.le_of_ble_eq_true rfl) rfl (zR_cons ?_ h)
        rintro r_ m5 ⟨y6, rfl, h⟩
        show zR κ (d + 1) Y_Unpacker_readAll 132 [some (.inr 41), some (.inr 3), some (.inl x2), some (.inl x3), some (.inl s0), some (.inl (((mem 42 1) + y2) + 1)), none] [.inl y6] m5 Q
        refine zR_goto (tgt := 142) d_Unpacker_readAll_132 (by decide) ?_
        refine zR_istore d_Unpacker_readAll_142 (by decide) ?_
        refine zR_iload d_Unpacker_readAll_144 rfl ?_
        refine zR_if_ne (tgt := 151) d_Unpacker_readAll_146 (by decide) (fun h1 => ?_) (fun h1 => ?_)
        · replace h := h.1 h1
          refine zR_iinc (v := 1) d_Unpacker_readAll_151 rfl (by decide) (by decide) ?_
          refine zR_goto (tgt := 29) d_Unpacker_readAll_154 (by decide) ?_
          refine zR_drop 4 ?_
          refine zR_drop 5 ?_
          refine zR_drop 6 ?_
          exact h
        · replace h := h.2 h1
          refine zR_iconst (v := 0) d_Unpacker_readAll_149 (by decide) ?_
          exact zR_zreturn rfl d_Unpacker_readAll_150 (Or.inl rfl) h
    · replace h := h.2 h1
      refine zR_iconst (v := 0) d_Unpacker_readAll_118 (by decide) ?_
      exact zR_zreturn rfl d_Unpacker_readAll_119 (Or.inl rfl) h
theorem w_Unpacker_readAll_157 {κ : zK} {d : Nat} {mem : zM} {Q : Option zV → zM → Prop} {x2 x3 : Int32}
    (h : ((x2 = 0 → Q (some (.inl 0)) mem) ∧ (¬ x2 = 0 → zR κ d Y_BitStream_isReadWhole 0 [some (.inr 3)] [] mem (fun r m1 => ∃ y2 : Int32, r = some (.inl y2) ∧ ((y2 = 0 → Q (some (.inl 0)) m1) ∧ (¬ y2 = 0 → Q (some (.inl 1)) m1)))))) : zR κ (d + 1) Y_Unpacker_readAll 157 [some (.inr 41), some (.inr 3), some (.inl x2), some (.inl x3), none, none, none] [] mem Q := by
  refine zR_iload_n d_Unpacker_readAll_157 rfl rfl ?_
  refine zR_if_eq (tgt := 172) d_Unpacker_readAll_158 (by decide) (fun h1 => ?_) (fun h1 => ?_)
  · replace h := h.1 h1
    refine zR_iconst (v := 0) d_Unpacker_readAll_172 (by decide) ?_
    exact zR_zreturn rfl d_Unpacker_readAll_173 (Or.inl rfl) h
  · replace h := h.2 h1
    refine zR_aload_n d_Unpacker_readAll_161 rfl rfl ?_
    refine zR_callV (Y' := Y_BitStream_isReadWhole) (n := 0) (A := []) (b := 3) (S := []) v_BitStream_isReadWhole g_160 sh_3 cl_BitStream rfl d_Unpacker_readAll_162 rfl (Nat.le_of_ble_eq_true rfl) rfl (zR_cons ?_ h)
    rintro r_ m1 ⟨y2, rfl, h⟩
    show zR κ (d + 1) Y_Unpacker_readAll 165 [some (.inr 41), some (.inr 3), some (.inl x2), some (.inl x3), none, none, none] [.inl y2] m1 Q
    refine zR_if_eq (tgt := 172) d_Unpacker_readAll_165 (by decide) (fun h1 => ?_) (fun h1 => ?_)
    · replace h := h.1 h1
      refine zR_iconst (v := 0) d_Unpacker_readAll_172 (by decide) ?_
      exact zR_zreturn rfl d_Unpacker_readAll_173 (Or.inl rfl) h
    · replace h := h.2 h1
      refine zR_iconst (v := 1) d_Unpacker_readAll_168 (by decide) ?_
      refine zR_goto (tgt := 173) d_Unpacker_readAll_169 (by decide) ?_
      exact zR_zreturn rfl d_Unpacker_readAll_173 (Or.inr rfl) h
theorem w_Unpacker_readRaw_0 {κ : zK} {d : Nat} {mem : zM} {Q : Option zV → zM → Prop} {x2 : Int32}
    (h : zR κ d Y_BitStream_takeZerosToByteEnd 0 [some (.inr 3), none] [] mem (fun r m1 => ∃ y2 : Int32, r = some (.inl y2) ∧ ((¬ y2 = 0 → zR κ (d + 1) Y_Unpacker_readRaw 17 [some (.inr 41), some (.inr 3), some (.inl x2), some (.inl (m1 42 1))] [] m1 Q) ∧ (y2 = 0 → Q (some (.inl 0)) m1)))) : zR κ (d + 1) Y_Unpacker_readRaw 0 [some (.inr 41), some (.inr 3), some (.inl x2), none] [] mem Q := by
  refine zR_aload_n d_Unpacker_readRaw_0 rfl rfl ?_
  refine zR_callV (Y' := Y_BitStream_takeZerosToByteEnd) (n := 0) (A := []) (b := 3) (S := []) v_BitStream_takeZerosToByteEnd g_161 sh_3 cl_BitStream rfl d_Unpacker_readRaw_1 rfl (Nat.le_of_ble_eq_true rfl) rfl (zR_cons ?_ h)
  rintro r_ m1 ⟨y2, rfl, h⟩
  show zR κ (d + 1) Y_Unpacker_readRaw 4 [some (.inr 41), some (.inr 3), some (.inl x2), none] [.inl y2] m1 Q
  refine zR_if_ne (tgt := 9) d_Unpacker_readRaw_4 (by decide) (fun h1 => ?_) (fun h1 => ?_)
  · replace h := h.1 h1
    refine zR_aload_n d_Unpacker_readRaw_9 rfl rfl ?_
    refine zR_getR (j := 0) d_Unpacker_readRaw_10 sh_41 cl_Unpacker rfl (by decide) g_148 ?_
    refine zR_getIN (j := 1) d_Unpacker_readRaw_13 sh_42 cl_Text rfl (by decide) n_156 ?_
    refine zR_istore_n d_Unpacker_readRaw_16 rfl (by decide) ?_
    exact h
  · replace h := h.2 h1
    refine zR_iconst (v := 0) d_Unpacker_readRaw_7 (by decide) ?_
    exact zR_zreturn rfl d_Unpacker_readRaw_8 (Or.inl rfl) h
theorem w_Unpacker_readRaw_17 {κ : zK} {d : Nat} {mem : zM} {Q : Option zV → zM → Prop} {x2 x3 : Int32}
    (h : ((x2 ≤ x3 → ((¬ (mem 3 3) = 0 → Q (some (.inl 0)) mem) ∧ ((mem 3 3) = 0 → Q (some (.inl 1)) mem))) ∧ (¬ x2 ≤ x3 → zR κ d Y_BitStream_take 0 [some (.inr 3), some (.inl 8), none, none] [] mem (fun r m1 => ∃ y2 : Int32, r = some (.inl y2) ∧ zR κ d Y_Text_add 0 [some (.inr 42), some (.inl y2)] [] m1 (fun r m3 => ∃ y4 : Int32, r = some (.inl y4) ∧ zR κ (d + 1) Y_Unpacker_readRaw 17 [some (.inr 41), some (.inr 3), some (.inl x2), some (.inl (x3 + 1))] [] m3 Q))))) : zR κ (d + 1) Y_Unpacker_readRaw 17 [some (.inr 41), some (.inr 3), some (.inl x2), some (.inl x3)] [] mem Q := by
  refine zR_iload_n d_Unpacker_readRaw_17 rfl rfl ?_
  refine zR_iload_n d_Unpacker_readRaw_18 rfl rfl ?_
  refine zR_icmp_ge (tgt := 42) d_Unpacker_readRaw_19 (by decide) (fun h1 => ?_) (fun h1 => ?_)
  · replace h := h.1 h1
    refine zR_aload_n d_Unpacker_readRaw_42 rfl rfl ?_
    refine zR_getIN (j := 3) d_Unpacker_readRaw_43 sh_3 cl_BitStream rfl (by decide) n_157 ?_
    refine zR_if_ne (tgt := 53) d_Unpacker_readRaw_46 (by decide) (fun h1 => ?_) (fun h1 => ?_)
    · replace h := h.1 h1
      refine zR_iconst (v := 0) d_Unpacker_readRaw_53 (by decide) ?_
      exact zR_zreturn rfl d_Unpacker_readRaw_54 (Or.inl rfl) h
    · replace h := h.2 h1
      refine zR_iconst (v := 1) d_Unpacker_readRaw_49 (by decide) ?_
      refine zR_goto (tgt := 54) d_Unpacker_readRaw_50 (by decide) ?_
      exact zR_zreturn rfl d_Unpacker_readRaw_54 (Or.inr rfl) h
  · replace h := h.2 h1
    refine zR_aload_n d_Unpacker_readRaw_22 rfl rfl ?_
    refine zR_getR (j := 0) d_Unpacker_readRaw_23 sh_41 cl_Unpacker rfl (by decide) g_148 ?_
    refine zR_aload_n d_Unpacker_readRaw_26 rfl rfl ?_
    refine zR_bipush (v := 8) d_Unpacker_readRaw_27 (by decide) ?_
    refine zR_callV (Y' := Y_BitStream_take) (n := 1) (A := [.inl 8]) (b := 3) (S := [.inr 42]) v_BitStream_take g_155 sh_3 cl_BitStream rfl d_Unpacker_readRaw_29 rfl (Nat.le_of_ble_eq_true rfl) rfl (zR_cons ?_ h)
    rintro r_ m1 ⟨y2, rfl, h⟩
    show zR κ (d + 1) Y_Unpacker_readRaw 32 [some (.inr 41), some (.inr 3), some (.inl x2), some (.inl x3)] [.inl y2, .inr 42] m1 Q
    refine zR_callV (Y' := Y_Text_add) (n := 1) (A := [.inl y2]) (b := 42) (S := []) v_Text_add g_162 sh_42 cl_Text rfl d_Unpacker_readRaw_32 rfl (Nat.le_of_ble_eq_true rfl) rfl (zR_cons ?_ h)
    rintro r_ m3 ⟨y4, rfl, h⟩
    show zR κ (d + 1) Y_Unpacker_readRaw 35 [some (.inr 41), some (.inr 3), some (.inl x2), some (.inl x3)] [.inl y4] m3 Q
    refine zR_pop d_Unpacker_readRaw_35 ?_
    refine zR_iinc (v := 1) d_Unpacker_readRaw_36 rfl (by decide) (by decide) ?_
    refine zR_goto (tgt := 17) d_Unpacker_readRaw_39 (by decide) ?_
    exact h
theorem w_Unpacker_readCoded_0 {κ : zK} {d : Nat} {mem : zM} {Q : Option zV → zM → Prop} {x2 : Int32}
    (h : zR κ d Y_BitStream_take 0 [some (.inr 3), some (.inl 1), none, none] [] mem (fun r m1 => ∃ y2 : Int32, r = some (.inl y2) ∧ ((¬ y2 = 1 → zR κ (d + 1) Y_Unpacker_readCoded 14 [some (.inr 41), some (.inr 3), some (.inl x2), none, none] [.inl 0] m1 Q) ∧ (y2 = 1 → zR κ (d + 1) Y_Unpacker_readCoded 14 [some (.inr 41), some (.inr 3), some (.inl x2), none, none] [.inl 1] m1 Q)))) : zR κ (d + 1) Y_Unpacker_readCoded 0 [some (.inr 41), some (.inr 3), some (.inl x2), none, none] [] mem Q := by
  refine zR_aload_n d_Unpacker_readCoded_0 rfl rfl ?_
  refine zR_iconst (v := 1) d_Unpacker_readCoded_1 (by decide) ?_
  refine zR_callV (Y' := Y_BitStream_take) (n := 1) (A := [.inl 1]) (b := 3) (S := []) v_BitStream_take g_155 sh_3 cl_BitStream rfl d_Unpacker_readCoded_2 rfl (Nat.le_of_ble_eq_true rfl) rfl (zR_cons ?_ h)
  rintro r_ m1 ⟨y2, rfl, h⟩
  show zR κ (d + 1) Y_Unpacker_readCoded 5 [some (.inr 41), some (.inr 3), some (.inl x2), none, none] [.inl y2] m1 Q
  refine zR_iconst (v := 1) d_Unpacker_readCoded_5 (by decide) ?_
  refine zR_icmp_ne (tgt := 13) d_Unpacker_readCoded_6 (by decide) (fun h1 => ?_) (fun h1 => ?_)
  · replace h := h.1 h1
    refine zR_iconst (v := 0) d_Unpacker_readCoded_13 (by decide) ?_
    exact h
  · replace h := h.2 h1
    refine zR_iconst (v := 1) d_Unpacker_readCoded_9 (by decide) ?_
    refine zR_goto (tgt := 14) d_Unpacker_readCoded_10 (by decide) ?_
    exact h
theorem w_Unpacker_readCoded_14 {κ : zK} {d : Nat} {mem : zM} {Q : Option zV → zM → Prop} {x2 s0 : Int32}
    (h : zR κ d Y_Codes_readDescriptions 0 [some (.inr 47), some (.inr 3), some (.inl s0)] [] mem (fun r m1 => ∃ y2 : Int32, r = some (.inl y2) ∧ ((¬ y2 = 0 → zR κ (d + 1) Y_Unpacker_readCoded 45 [some (.inr 41), some (.inr 3), some (.inl x2), some (.inl s0), some (.inl 0)] [] (zms m1 44 0 ((m1 44 0) + 1)) Q) ∧ (y2 = 0 → Q (some (.inl 0)) m1)))) : zR κ (d + 1) Y_Unpacker_readCoded 14 [some (.inr 41), some (.inr 3), some (.inl x2), none, none] [.inl s0] mem Q := by
  refine zR_istore_n d_Unpacker_readCoded_14 rfl (by decide) ?_
  refine zR_aload_n d_Unpacker_readCoded_15 rfl rfl ?_
  refine zR_getR (j := 3) d_Unpacker_readCoded_16 sh_41 cl_Unpacker rfl (by decide) g_163 ?_
  refine zR_aload_n d_Unpacker_readCoded_19 rfl rfl ?_
  refine zR_iload_n d_Unpacker_readCoded_20 rfl rfl ?_
  refine zR_callV (Y' := Y_Codes_readDescriptions) (n := 2) (A := [.inr 3, .inl s0]) (b := 47) (S := []) v_Codes_readDescriptions g_164 sh_47 cl_Codes rfl d_Unpacker_readCoded_21 rfl (Nat.le_of_ble_eq_true rfl) rfl (zR_cons ?_ h)
  rintro r_ m1 ⟨y2, rfl, h⟩
  show zR κ (d + 1) Y_Unpacker_readCoded 24 [some (.inr 41), some (.inr 3), some (.inl x2), some (.inl s0), none] [.inl y2] m1 Q
  refine zR_if_ne (tgt := 29) d_Unpacker_readCoded_24 (by decide) (fun h1 => ?_) (fun h1 => ?_)
  · replace h := h.1 h1
    refine zR_aload_n d_Unpacker_readCoded_29 rfl rfl ?_
    refine zR_getR (j := 1) d_Unpacker_readCoded_30 sh_41 cl_Unpacker rfl (by decide) g_150 ?_
    refine zR_dup d_Unpacker_readCoded_33 ?_
    refine zR_getIN (j := 0) d_Unpacker_readCoded_34 sh_44 cl_Counts rfl (by decide) n_165 ?_
    refine zR_iconst (v := 1) d_Unpacker_readCoded_37 (by decide) ?_
    refine zR_iadd d_Unpacker_readCoded_38 ?_
    refine zR_putN (j := 0) (ty := .int) d_Unpacker_readCoded_39 sh_44 cl_Counts rfl (by decide) rfl (by decide +kernel) n_165 (zint _) ?_
    refine zR_iconst (v := 0) d_Unpacker_readCoded_42 (by decide) ?_
    refine zR_istore d_Unpacker_readCoded_43 (by decide) ?_
    exact h
  · replace h := h.2 h1
    refine zR_iconst (v := 0) d_Unpacker_readCoded_27 (by decide) ?_
    exact zR_zreturn rfl d_Unpacker_readCoded_28 (Or.inl rfl) h
theorem w_Unpacker_readCoded_45 {κ : zK} {d : Nat} {mem : zM} {Q : Option zV → zM → Prop} {x2 x3 x4 : Int32}
    (h : ((64 ≤ x4 → zR κ (d + 1) Y_Unpacker_readCoded 81 [some (.inr 41), some (.inr 3), some (.inl x2), some (.inl x3), some (.inl x4)] [] mem Q) ∧ (¬ 64 ≤ x4 → ((x2 ≤ (mem 42 1) → zR κ (d + 1) Y_Unpacker_readCoded 81 [some (.inr 41), some (.inr 3), some (.inl x2), some (.inl x3), some (.inl x4)] [] mem Q) ∧ (¬ x2 ≤ (mem 42 1) → zR κ d Y_Unpacker_readCommand 0 [some (.inr 41), some (.inr 3), some (.inl x3), some (.inl x2), none, none, none, none, none, none] [] mem (fun r m1 => ∃ y2 : Int32, r = some (.inl y2) ∧ ((¬ y2 = 0 → zR κ (d + 1) Y_Unpacker_readCoded 45 [some (.inr 41), some (.inr 3), some (.inl x2), some (.inl x3), some (.inl (x4 + 1))] [] m1 Q) ∧ (y2 = 0 → Q (some (.inl 0)) m1)))))))) : zR κ (d + 1) Y_Unpacker_readCoded 45 [some (.inr 41), some (.inr 3), some (.inl x2), some (.inl x3), some (.inl x4)] [] mem Q := by
  refine zR_iload d_Unpacker_readCoded_45 rfl ?_
  refine zR_bipush (v := 64) d_Unpacker_readCoded_47 (by decide) ?_
  refine zR_icmp_ge (tgt := 81) d_Unpacker_readCoded_49 (by decide) (fun h1 => ?_) (fun h1 => ?_)
  · replace h := h.1 h1
    exact h
  · replace h := h.2 h1
    refine zR_aload_n d_Unpacker_readCoded_52 rfl rfl ?_
    refine zR_getR (j := 0) d_Unpacker_readCoded_53 sh_41 cl_Unpacker rfl (by decide) g_148 ?_
    refine zR_getIN (j := 1) d_Unpacker_readCoded_56 sh_42 cl_Text rfl (by decide) n_156 ?_
    refine zR_iload_n d_Unpacker_readCoded_59 rfl rfl ?_
    refine zR_icmp_ge (tgt := 81) d_Unpacker_readCoded_60 (by decide) (fun h1 => ?_) (fun h1 => ?_)
    · replace h := h.1 h1
      exact h
    · replace h := h.2 h1
      refine zR_aload_n d_Unpacker_readCoded_63 rfl rfl ?_
      refine zR_aload_n d_Unpacker_readCoded_64 rfl rfl ?_
      refine zR_iload_n d_Unpacker_readCoded_65 rfl rfl ?_
      refine zR_iload_n d_Unpacker_readCoded_66 rfl rfl ?_
      refine zR_callV (Y' := Y_Unpacker_readCommand) (n := 3) (A := [.inr 3, .inl x3, .inl x2]) (b := 41) (S := []) v_Unpacker_readCommand g_166 sh_41 cl_Unpacker rfl d_Unpacker_readCoded_67 rfl (Nat.le_of_ble_eq_true rfl) rfl (zR_cons ?_ h)
      rintro r_ m1 ⟨y2, rfl, h⟩
      show zR κ (d + 1) Y_Unpacker_readCoded 70 [some (.inr 41), some (.inr 3), some (.inl x2), some (.inl x3), some (.inl x4)] [.inl y2] m1 Q
      refine zR_if_ne (tgt := 75) d_Unpacker_readCoded_70 (by decide) (fun h1 => ?_) (fun h1 => ?_)
      · replace h := h.1 h1
        refine zR_iinc (v := 1) d_Unpacker_readCoded_75 rfl (by decide) (by decide) ?_
        refine zR_goto (tgt := 45) d_Unpacker_readCoded_78 (by decide) ?_
        exact h
      · replace h := h.2 h1
        refine zR_iconst (v := 0) d_Unpacker_readCoded_73 (by decide) ?_
        exact zR_zreturn rfl d_Unpacker_readCoded_74 (Or.inl rfl) h
theorem w_Unpacker_readCoded_81 {κ : zK} {d : Nat} {mem : zM} {Q : Option zV → zM → Prop} {x2 x3 x4 : Int32}
    (h : ((¬ (mem 42 1) = x2 → Q (some (.inl 0)) mem) ∧ ((mem 42 1) = x2 → Q (some (.inl 1)) mem))) : zR κ (d + 1) Y_Unpacker_readCoded 81 [some (.inr 41), some (.inr 3), some (.inl x2), some (.inl x3), some (.inl x4)] [] mem Q := by
  refine zR_aload_n d_Unpacker_readCoded_81 rfl rfl ?_
  refine zR_getR (j := 0) d_Unpacker_readCoded_82 sh_41 cl_Unpacker rfl (by decide) g_148 ?_
  refine zR_getIN (j := 1) d_Unpacker_readCoded_85 sh_42 cl_Text rfl (by decide) n_156 ?_
  refine zR_iload_n d_Unpacker_readCoded_88 rfl rfl ?_
  refine zR_icmp_ne (tgt := 96) d_Unpacker_readCoded_89 (by decide) (fun h1 => ?_) (fun h1 => ?_)
  · replace h := h.1 h1
    refine zR_iconst (v := 0) d_Unpacker_readCoded_96 (by decide) ?_
    exact zR_zreturn rfl d_Unpacker_readCoded_97 (Or.inl rfl) h
  · replace h := h.2 h1
    refine zR_iconst (v := 1) d_Unpacker_readCoded_92 (by decide) ?_
    refine zR_goto (tgt := 97) d_Unpacker_readCoded_93 (by decide) ?_
    exact zR_zreturn rfl d_Unpacker_readCoded_97 (Or.inr rfl) h
theorem w_Unpacker_readCommand_0 {κ : zK} {d : Nat} {mem : zM} {Q : Option zV → zM → Prop} {x2 x3 : Int32}
    (h : zR κ d Y_Code_readWord 0 [some (.inr 58), some (.inr 3), none, none, none] [] mem (fun r m1 => ∃ y2 : Int32, r = some (.inl y2) ∧ ((¬ y2 = (-1) → vp_in (y2 >>> (3 : Int32)) 4 ∧ vp_in (y2 >>> (3 : Int32)) 4 ∧ zR κ d Y_BitStream_take 0 [some (.inr 3), some (.inl (tv_1.getD (y2 >>> (3 : Int32)).toNatClampNeg 0)), none, none] [] (zms m1 44 3 ((m1 44 3) + 1)) (fun r m3 => ∃ y4 : Int32, r = some (.inl y4) ∧ vp_in (y2 &&& 7) 8 ∧ vp_in (y2 &&& 7) 8 ∧ zR κ d Y_BitStream_take 0 [some (.inr 3), some (.inl (tv_3.getD (y2 &&& 7).toNatClampNeg 0)), none, none] [] m3 (fun r m5 => ∃ y6 : Int32, r = some (.inl y6) ∧ ((((tv_0.getD (y2 >>> (3 : Int32)).toNatClampNeg 0) + y4) ≤ (x3 - (m5 42 1)) → zR κ (d + 1) Y_Unpacker_readCommand 104 [some (.inr 41), some (.inr 3), some (.inl x2), some (.inl x3), some (.inl y2), some (.inl (y2 >>> (3 : Int32))), some (.inl (y2 &&& 7)), some (.inl ((tv_0.getD (y2 >>> (3 : Int32)).toNatClampNeg 0) + y4)), some (.inl ((tv_2.getD (y2 &&& 7).toNatClampNeg 0) + y6)), some (.inl 0)] [] m5 Q) ∧ (¬ ((tv_0.getD (y2 >>> (3 : Int32)).toNatClampNeg 0) + y4) ≤ (x3 - (m5 42 1)) → Q (some (.inl 0)) m5))))) ∧ (y2 = (-1) → Q (some (.inl 0)) m1)))) : zR κ (d + 1) Y_Unpacker_readCommand 0 [some (.inr 41), some (.inr 3), some (.inl x2), some (.inl x3), none, none, none, none, none, none] [] mem Q := by
  refine zR_aload_n d_Unpacker_readCommand_0 rfl rfl ?_
  refine zR_getR (j := 3) d_Unpacker_readCommand_1 sh_41 cl_Unpacker rfl (by decide) g_163 ?_
  refine zR_getRN (j := 2) d_Unpacker_readCommand_4 sh_47 cl_Codes rfl (by decide) n_167 ?_
  refine zR_aload_n d_Unpacker_readCommand_7 rfl rfl ?_
  refine zR_callV (Y' := Y_Code_readWord) (n := 1) (A := [.inr 3]) (b := 58) (S := []) v_Code_readWord g_168 sh_58 cl_Code rfl d_Unpacker_readCommand_8 rfl (Nat.le_of_ble_eq_true rfl) rfl (zR_cons ?_ h)
  rintro r_ m1 ⟨y2, rfl, h⟩
  show zR κ (d + 1) Y_Unpacker_readCommand 11 [some (.inr 41), some (.inr 3), some (.inl x2), some (.inl x3), none, none, none, none, none, none] [.inl y2] m1 Q
  refine zR_istore d_Unpacker_readCommand_11 (by decide) ?_
  refine zR_iload d_Unpacker_readCommand_13 rfl ?_
  refine zR_iconst (v := (-1)) d_Unpacker_readCommand_15 (by decide) ?_
  refine zR_icmp_ne (tgt := 21) d_Unpacker_readCommand_16 (by decide) (fun h1 => ?_) (fun h1 => ?_)
  · replace h := h.1 h1
    refine zR_aload_n d_Unpacker_readCommand_21 rfl rfl ?_
    refine zR_getR (j := 1) d_Unpacker_readCommand_22 sh_41 cl_Unpacker rfl (by decide) g_150 ?_
    refine zR_dup d_Unpacker_readCommand_25 ?_
    refine zR_getIN (j := 3) d_Unpacker_readCommand_26 sh_44 cl_Counts rfl (by decide) n_169 ?_
    refine zR_iconst (v := 1) d_Unpacker_readCommand_29 (by decide) ?_
    refine zR_iadd d_Unpacker_readCommand_30 ?_
    refine zR_putN (j := 3) (ty := .int) d_Unpacker_readCommand_31 sh_44 cl_Counts rfl (by decide) rfl (by decide +kernel) n_169 (zint _) ?_
    refine zR_iload d_Unpacker_readCommand_34 rfl ?_
    refine zR_iconst (v := 3) d_Unpacker_readCommand_36 (by decide) ?_
    refine zR_ishr (z := 3) d_Unpacker_readCommand_37 (by decide) ?_
    refine zR_istore d_Unpacker_readCommand_38 (by decide) ?_
    refine zR_iload d_Unpacker_readCommand_40 rfl ?_
    refine zR_bipush (v := 7) d_Unpacker_readCommand_42 (by decide) ?_
    refine zR_iand d_Unpacker_readCommand_44 ?_
    refine zR_istore d_Unpacker_readCommand_45 (by decide) ?_
    refine zR_getT (t := 0) d_Unpacker_readCommand_47 tb_0 n_170 ?_
    refine zR_iload d_Unpacker_readCommand_50 rfl ?_
    refine zR_tload (t := 0) d_Unpacker_readCommand_52 tb_0 h.1 rfl ?_
    replace h := h.2
    refine zR_aload_n d_Unpacker_readCommand_53 rfl rfl ?_
    refine zR_getT (t := 1) d_Unpacker_readCommand_54 tb_1 n_171 ?_
    refine zR_iload d_Unpacker_readCommand_57 rfl ?_
    refine zR_tload (t := 1) d_Unpacker_readCommand_59 tb_1 h.1 rfl ?_
    replace h := h.2
    refine zR_callV (Y' := Y_BitStream_take) (n := 1) (A := [.inl (tv_1.getD (y2 >>> (3 : Int32)).toNatClampNeg 0)]) (b := 3) (S := [.inl (tv_0.getD (y2 >>> (3 : Int32)).toNatClampNeg 0)]) v_BitStream_take g_155 sh_3 cl_BitStream rfl d_Unpacker_readCommand_60 rfl (Nat.le_of_ble_eq_true rfl) rfl (zR_cons ?_ h)
    rintro r_ m3 ⟨y4, rfl, h⟩
    show zR κ (d + 1) Y_Unpacker_readCommand 63 [some (.inr 41), some (.inr 3), some (.inl x2), some (.inl x3), some (.inl y2), some (.inl (y2 >>> (3 : Int32))), some (.inl (y2 &&& 7)), none, none, none] [.inl y4, .inl (tv_0.getD (y2 >>> (3 : Int32)).toNatClampNeg 0)] m3 Q
    refine zR_iadd d_Unpacker_readCommand_63 ?_
    refine zR_istore d_Unpacker_readCommand_64 (by decide) ?_
    refine zR_getT (t := 2) d_Unpacker_readCommand_66 tb_2 n_172 ?_
    refine zR_iload d_Unpacker_readCommand_69 rfl ?_
    refine zR_tload (t := 2) d_Unpacker_readCommand_71 tb_2 h.1 rfl ?_
    replace h := h.2
    refine zR_aload_n d_Unpacker_readCommand_72 rfl rfl ?_
    refine zR_getT (t := 3) d_Unpacker_readCommand_73 tb_3 n_173 ?_
    refine zR_iload d_Unpacker_readCommand_76 rfl ?_
    refine zR_tload (t := 3) d_Unpacker_readCommand_78 tb_3 h.1 rfl ?_
    replace h := h.2
    refine zR_callV (Y' := Y_BitStream_take) (n := 1) (A := [.inl (tv_3.getD (y2 &&& 7).toNatClampNeg 0)]) (b := 3) (S := [.inl (tv_2.getD (y2 &&& 7).toNatClampNeg 0)]) v_BitStream_take g_155 sh_3 cl_BitStream rfl d_Unpacker_readCommand_79 rfl (Nat.le_of_ble_eq_true rfl) rfl (zR_cons ?_ h)
    rintro r_ m5 ⟨y6, rfl, h⟩
    show zR κ (d + 1) Y_Unpacker_readCommand 82 [some (.inr 41), some (.inr 3), some (.inl x2), some (.inl x3), some (.inl y2), some (.inl (y2 >>> (3 : Int32))), some (.inl (y2 &&& 7)), some (.inl ((tv_0.getD (y2 >>> (3 : Int32)).toNatClampNeg 0) + y4)), none, none] [.inl y6, .inl (tv_2.getD (y2 &&& 7).toNatClampNeg 0)] m5 Q
    refine zR_iadd d_Unpacker_readCommand_82 ?_
    refine zR_istore d_Unpacker_readCommand_83 (by decide) ?_
    refine zR_iload d_Unpacker_readCommand_85 rfl ?_
    refine zR_iload_n d_Unpacker_readCommand_87 rfl rfl ?_
    refine zR_aload_n d_Unpacker_readCommand_88 rfl rfl ?_
    refine zR_getR (j := 0) d_Unpacker_readCommand_89 sh_41 cl_Unpacker rfl (by decide) g_148 ?_
    refine zR_getIN (j := 1) d_Unpacker_readCommand_92 sh_42 cl_Text rfl (by decide) n_156 ?_
    refine zR_isub d_Unpacker_readCommand_95 ?_
    refine zR_icmp_le (tgt := 101) d_Unpacker_readCommand_96 (by decide) (fun h1 => ?_) (fun h1 => ?_)
    · replace h := h.1 h1
      refine zR_iconst (v := 0) d_Unpacker_readCommand_101 (by decide) ?_
      refine zR_istore d_Unpacker_readCommand_102 (by decide) ?_
      exact h
    · replace h := h.2 h1
      refine zR_iconst (v := 0) d_Unpacker_readCommand_99 (by decide) ?_
      exact zR_zreturn rfl d_Unpacker_readCommand_100 (Or.inl rfl) h
  · replace h := h.2 h1
    refine zR_iconst (v := 0) d_Unpacker_readCommand_19 (by decide) ?_
    exact zR_zreturn rfl d_Unpacker_readCommand_20 (Or.inl rfl) h
theorem w_Unpacker_readCommand_104 {κ : zK} {d : Nat} {mem : zM} {Q : Option zV → zM → Prop} {x2 x3 x4 x5 x6 x7 x8 x9 : Int32}
    (h : ((x7 ≤ x9 → ((¬ (mem 3 3) = 0 → ((¬ (mem 3 3) = 0 → Q (some (.inl 0)) mem) ∧ ((mem 3 3) = 0 → Q (some (.inl 1)) mem))) ∧ ((mem 3 3) = 0 → ((¬ (mem 42 1) = x3 → zR κ d Y_Unpacker_readDistance 0 [some (.inr 41), some (.inr 3), some (.inl x6), none, none] [] mem (fun r m1 => ∃ y2 : Int32, r = some (.inl y2) ∧ ((¬ (m1 3 3) = 0 → Q (some (.inl 0)) m1) ∧ ((m1 3 3) = 0 → ((1 ≤ y2 → ((y2 ≤ (m1 42 1) → zR κ d Y_Unpacker_yieldCopy 0 [some (.inr 41), some (.inl x8), some (.inl y2), some (.inl x3), none] [] m1 (fun r m3 => ∃ y4 : Int32, r = some (.inl y4) ∧ (y4 = 0 ∨ y4 = 1) ∧ Q (some (.inl y4)) m3)) ∧ (¬ y2 ≤ (m1 42 1) → zR κ d Y_Unpacker_yieldWord 0 [some (.inr 41), some (.inl x8), some (.inl ((y2 - (m1 42 1)) - 1)), some (.inl x3), none, none] [] m1 (fun r m5 => ∃ y6 : Int32, r = some (.inl y6) ∧ (y6 = 0 ∨ y6 = 1) ∧ Q (some (.inl y6)) m5)))) ∧ (¬ 1 ≤ y2 → Q (some (.inl 0)) m1)))))) ∧ ((mem 42 1) = x3 → ((¬ (mem 3 3) = 0 → Q (some (.inl 0)) mem) ∧ ((mem 3 3) = 0 → Q (some (.inl 1)) mem))))))) ∧ (¬ x7 ≤ x9 → zR κ d Y_Codes_literalAt 0 [some (.inr 47), some (.inr 42), some (.inl (mem 42 1)), some (.inl x2)] [] mem (fun r m7 => ∃ q8 : Nat, r = some (.inr q8) ∧ (∃ fs, shT[q8]? = some (.inr (1, fs))) ∧ zR κ d Y_Code_readWord 0 [some (.inr q8), some (.inr 3), none, none, none] [] m7 (fun r m9 => ∃ y10 : Int32, r = some (.inl y10) ∧ zR κ d Y_Text_add 0 [some (.inr 42), some (.inl y10)] [] m9 (fun r m11 => ∃ y12 : Int32, r = some (.inl y12) ∧ zR κ (d + 1) Y_Unpacker_readCommand 104 [some (.inr 41), some (.inr 3), some (.inl x2), some (.inl x3), some (.inl x4), some (.inl x5), some (.inl x6), some (.inl x7), some (.inl x8), some (.inl (x9 + 1))] [] (zms m11 44 3 ((m11 44 3) + 1)) Q)))))) : zR κ (d + 1) Y_Unpacker_readCommand 104 [some (.inr 41), some (.inr 3), some (.inl x2), some (.inl x3), some (.inl x4), some (.inl x5), some (.inl x6), some (.inl x7), some (.inl x8), some (.inl x9)] [] mem Q := by
  refine zR_iload d_Unpacker_readCommand_104 rfl ?_
  refine zR_iload d_Unpacker_readCommand_106 rfl ?_
  refine zR_icmp_ge (tgt := 161) d_Unpacker_readCommand_108 (by decide) (fun h1 => ?_) (fun h1 => ?_)
  · replace h := h.1 h1
    refine zR_aload_n d_Unpacker_readCommand_161 rfl rfl ?_
    refine zR_getIN (j := 3) d_Unpacker_readCommand_162 sh_3 cl_BitStream rfl (by decide) n_157 ?_
    refine zR_if_ne (tgt := 179) d_Unpacker_readCommand_165 (by decide) (fun h1 => ?_) (fun h1 => ?_)
    · replace h := h.1 h1
      refine zR_aload_n d_Unpacker_readCommand_179 rfl rfl ?_
      refine zR_getIN (j := 3) d_Unpacker_readCommand_180 sh_3 cl_BitStream rfl (by decide) n_157 ?_
      refine zR_if_ne (tgt := 190) d_Unpacker_readCommand_183 (by decide) (fun h1 => ?_) (fun h1 => ?_)
      · replace h := h.1 h1
        refine zR_iconst (v := 0) d_Unpacker_readCommand_190 (by decide) ?_
        exact zR_zreturn rfl d_Unpacker_readCommand_191 (Or.inl rfl) h
      · replace h := h.2 h1
        refine zR_iconst (v := 1) d_Unpacker_readCommand_186 (by decide) ?_
        refine zR_goto (tgt := 191) d_Unpacker_readCommand_187 (by decide) ?_
        exact zR_zreturn rfl d_Unpacker_readCommand_191 (Or.inr rfl) h
    · replace h := h.2 h1
      refine zR_aload_n d_Unpacker_readCommand_168 rfl rfl ?_
      refine zR_getR (j := 0) d_Unpacker_readCommand_169 sh_41 cl_Unpacker rfl (by decide) g_148 ?_
      refine zR_getIN (j := 1) d_Unpacker_readCommand_172 sh_42 cl_Text rfl (by decide) n_156 ?_
      refine zR_iload_n d_Unpacker_readCommand_175 rfl rfl ?_
      refine zR_icmp_ne (tgt := 192) d_Unpacker_readCommand_176 (by decide) (fun h1 => ?_) (fun h1 => ?_)
      · replace h := h.1 h1
        refine zR_aload_n d_Unpacker_readCommand_192 rfl rfl ?_
        refine zR_aload_n d_Unpacker_readCommand_193 rfl rfl ?_
        refine zR_iload d_Unpacker_readCommand_194 rfl ?_
        refine zR_callV (Y' := Y_Unpacker_readDistance) (n := 2) (A := [.inr 3, .inl x6]) (b := 41) (S := []) v_Unpacker_readDistance g_174 sh_41 cl_Unpacker rfl d_Unpacker_readCommand_196 rfl (Nat.le_of_ble_eq_true rfl) rfl (zR_cons ?_ h)
        rintro r_ m1 ⟨y2, rfl, h⟩
        show zR κ (d + 1) Y_Unpacker_readCommand 199 [some (.inr 41), some (.inr 3), some (.inl x2), some (.inl x3), some (.inl x4), some (.inl x5), some (.inl x6), some (.inl x7), some (.inl x8), some (.inl x9)] [.inl y2] m1 Q
        refine zR_istore d_Unpacker_readCommand_199 (by decide) ?_
        refine zR_aload_n d_Unpacker_readCommand_201 rfl rfl ?_
        refine zR_getIN (j := 3) d_Unpacker_readCommand_202 sh_3 cl_BitStream rfl (by decide) n_157 ?_
        refine zR_if_ne (tgt := 214) d_Unpacker_readCommand_205 (by decide) (fun h1 => ?_) (fun h1 => ?_)
        · replace h := h.1 h1
          refine zR_iconst (v := 0) d_Unpacker_readCommand_214 (by decide) ?_
          exact zR_zreturn rfl d_Unpacker_readCommand_215 (Or.inl rfl) h
        · replace h := h.2 h1
          refine zR_iload d_Unpacker_readCommand_208 rfl ?_
          refine zR_iconst (v := 1) d_Unpacker_readCommand_210 (by decide) ?_
          refine zR_icmp_ge (tgt := 216) d_Unpacker_readCommand_211 (by decide) (fun h1 => ?_) (fun h1 => ?_)
          · replace h := h.1 h1
            refine zR_iload d_Unpacker_readCommand_216 rfl ?_
            refine zR_aload_n d_Unpacker_readCommand_218 rfl rfl ?_
            refine zR_getR (j := 0) d_Unpacker_readCommand_219 sh_41 cl_Unpacker rfl (by decide) g_148 ?_
            refine zR_getIN (j := 1) d_Unpacker_readCommand_222 sh_42 cl_Text rfl (by decide) n_156 ?_
            refine zR_icmp_le (tgt := 250) d_Unpacker_readCommand_225 (by decide) (fun h1 => ?_) (fun h1 => ?_)
            · replace h := h.1 h1
              refine zR_aload_n d_Unpacker_readCommand_250 rfl rfl ?_
              refine zR_iload d_Unpacker_readCommand_251 rfl ?_
              refine zR_iload d_Unpacker_readCommand_253 rfl ?_
              refine zR_iload_n d_Unpacker_readCommand_255 rfl rfl ?_
              refine zR_callV (Y' := Y_Unpacker_yieldCopy) (n := 3) (A := [.inl x8, .inl y2, .inl x3]) (b := 41) (S := []) v_Unpacker_yieldCopy g_175 sh_41 cl_Unpacker rfl d_Unpacker_readCommand_256 rfl (Nat.le_of_ble_eq_true rfl) rfl (zR_cons ?_ h)
              rintro r_ m3 ⟨y4, rfl, h⟩
              show zR κ (d + 1) Y_Unpacker_readCommand 259 [some (.inr 41), some (.inr 3), some (.inl x2), some (.inl x3), some (.inl x4), some (.inl x5), some (.inl x6), some (.inl x7), some (.inl x8), some (.inl y2)] [.inl y4] m3 Q
              exact zR_zreturn rfl d_Unpacker_readCommand_259 h.1 h.2
            · replace h := h.2 h1
              refine zR_aload_n d_Unpacker_readCommand_228 rfl rfl ?_
              refine zR_iload d_Unpacker_readCommand_229 rfl ?_
              refine zR_iload d_Unpacker_readCommand_231 rfl ?_
              refine zR_aload_n d_Unpacker_readCommand_233 rfl rfl ?_
              refine zR_getR (j := 0) d_Unpacker_readCommand_234 sh_41 cl_Unpacker rfl (by decide) g_148 ?_
              refine zR_getIN (j := 1) d_Unpacker_readCommand_237 sh_42 cl_Text rfl (by decide) n_156 ?_
              refine zR_isub d_Unpacker_readCommand_240 ?_
              refine zR_iconst (v := 1) d_Unpacker_readCommand_241 (by decide) ?_
              refine zR_isub d_Unpacker_readCommand_242 ?_
              refine zR_iload_n d_Unpacker_readCommand_243 rfl rfl ?_
              refine zR_callV (Y' := Y_Unpacker_yieldWord) (n := 3) (A := [.inl x8, .inl ((y2 - (m1 42 1)) - 1), .inl x3]) (b := 41) (S := []) v_Unpacker_yieldWord g_176 sh_41 cl_Unpacker rfl d_Unpacker_readCommand_244 rfl (Nat.le_of_ble_eq_true rfl) rfl (zR_cons ?_ h)
              rintro r_ m5 ⟨y6, rfl, h⟩
              show zR κ (d + 1) Y_Unpacker_readCommand 247 [some (.inr 41), some (.inr 3), some (.inl x2), some (.inl x3), some (.inl x4), some (.inl x5), some (.inl x6), some (.inl x7), some (.inl x8), some (.inl y2)] [.inl y6] m5 Q
              refine zR_goto (tgt := 259) d_Unpacker_readCommand_247 (by decide) ?_
              exact zR_zreturn rfl d_Unpacker_readCommand_259 h.1 h.2
          · replace h := h.2 h1
            refine zR_iconst (v := 0) d_Unpacker_readCommand_214 (by decide) ?_
            exact zR_zreturn rfl d_Unpacker_readCommand_215 (Or.inl rfl) h
      · replace h := h.2 h1
        refine zR_aload_n d_Unpacker_readCommand_179 rfl rfl ?_
        refine zR_getIN (j := 3) d_Unpacker_readCommand_180 sh_3 cl_BitStream rfl (by decide) n_157 ?_
        refine zR_if_ne (tgt := 190) d_Unpacker_readCommand_183 (by decide) (fun h1 => ?_) (fun h1 => ?_)
        · replace h := h.1 h1
          refine zR_iconst (v := 0) d_Unpacker_readCommand_190 (by decide) ?_
          exact zR_zreturn rfl d_Unpacker_readCommand_191 (Or.inl rfl) h
        · replace h := h.2 h1
          refine zR_iconst (v := 1) d_Unpacker_readCommand_186 (by decide) ?_
          refine zR_goto (tgt := 191) d_Unpacker_readCommand_187 (by decide) ?_
          exact zR_zreturn rfl d_Unpacker_readCommand_191 (Or.inr rfl) h
  · replace h := h.2 h1
    refine zR_aload_n d_Unpacker_readCommand_111 rfl rfl ?_
    refine zR_getR (j := 0) d_Unpacker_readCommand_112 sh_41 cl_Unpacker rfl (by decide) g_148 ?_
    refine zR_aload_n d_Unpacker_readCommand_115 rfl rfl ?_
    refine zR_getR (j := 3) d_Unpacker_readCommand_116 sh_41 cl_Unpacker rfl (by decide) g_163 ?_
    refine zR_aload_n d_Unpacker_readCommand_119 rfl rfl ?_
    refine zR_getR (j := 0) d_Unpacker_readCommand_120 sh_41 cl_Unpacker rfl (by decide) g_148 ?_
    refine zR_aload_n d_Unpacker_readCommand_123 rfl rfl ?_
    refine zR_getR (j := 0) d_Unpacker_readCommand_124 sh_41 cl_Unpacker rfl (by decide) g_148 ?_
    refine zR_getIN (j := 1) d_Unpacker_readCommand_127 sh_42 cl_Text rfl (by decide) n_156 ?_
    refine zR_iload_n d_Unpacker_readCommand_130 rfl rfl ?_
    refine zR_callV (Y' := Y_Codes_literalAt) (n := 3) (A := [.inr 42, .inl (mem 42 1), .inl x2]) (b := 47) (S := [.inr 42]) v_Codes_literalAt g_177 sh_47 cl_Codes rfl d_Unpacker_readCommand_131 rfl (Nat.le_of_ble_eq_true rfl) rfl (zR_cons ?_ h)
    rintro r_ m7 ⟨q8, rfl, h⟩
    show zR κ (d + 1) Y_Unpacker_readCommand 134 [some (.inr 41), some (.inr 3), some (.inl x2), some (.inl x3), some (.inl x4), some (.inl x5), some (.inl x6), some (.inl x7), some (.inl x8), some (.inl x9)] [.inr q8, .inr 42] m7 Q
    refine zR_aload_n d_Unpacker_readCommand_134 rfl rfl ?_
    obtain ⟨⟨fs_, hsh_⟩, h⟩ := h
    refine zR_callV (Y' := Y_Code_readWord) (n := 1) (A := [.inr 3]) (b := q8) (S := [.inr 42]) v_Code_readWord g_168 hsh_ cl_Code rfl d_Unpacker_readCommand_135 rfl (Nat.le_of_ble_eq_true rfl) rfl (zR_cons ?_ h)
    rintro r_ m9 ⟨y10, rfl, h⟩
    show zR κ (d + 1) Y_Unpacker_readCommand 138 [some (.inr 41), some (.inr 3), some (.inl x2), some (.inl x3), some (.inl x4), some (.inl x5), some (.inl x6), some (.inl x7), some (.inl x8), some (.inl x9)] [.inl y10, .inr 42] m9 Q
    refine zR_callV (Y' := Y_Text_add) (n := 1) (A := [.inl y10]) (b := 42) (S := []) v_Text_add g_162 sh_42 cl_Text rfl d_Unpacker_readCommand_138 rfl (Nat.le_of_ble_eq_true rfl) rfl (zR_cons ?_ h)
    rintro r_ m11 ⟨y12, rfl, h⟩
    show zR κ (d + 1) Y_Unpacker_readCommand 141 [some (.inr 41), some (.inr 3), some (.inl x2), some (.inl x3), some (.inl x4), some (.inl x5), some (.inl x6), some (.inl x7), some (.inl x8), some (.inl x9)] [.inl y12] m11 Q
    refine zR_pop d_Unpacker_readCommand_141 ?_
    refine zR_aload_n d_Unpacker_readCommand_142 rfl rfl ?_
    refine zR_getR (j := 1) d_Unpacker_readCommand_143 sh_41 cl_Unpacker rfl (by decide) g_150 ?_
    refine zR_dup d_Unpacker_readCommand_146 ?_
    refine zR_getIN (j := 3) d_Unpacker_readCommand_147 sh_44 cl_Counts rfl (by decide) n_169 ?_
    refine zR_iconst (v := 1) d_Unpacker_readCommand_150 (by decide) ?_
    refine zR_iadd d_Unpacker_readCommand_151 ?_
    refine zR_putN (j := 3) (ty := .int) d_Unpacker_readCommand_152 sh_44 cl_Counts rfl (by decide) rfl (by decide +kernel) n_169 (zint _) ?_
    refine zR_iinc (v := 1) d_Unpacker_readCommand_155 rfl (by decide) (by decide) ?_
    refine zR_goto (tgt := 104) d_Unpacker_readCommand_158 (by decide) ?_
    exact h
theorem w_Unpacker_readDistance_0 {κ : zK} {d : Nat} {mem : zM} {Q : Option zV → zM → Prop} {x2 : Int32}
    (h : ((¬ x2 = 7 → zR κ d Y_Code_readWord 0 [some (.inr 63), some (.inr 3), none, none, none] [] mem (fun r m1 => ∃ y2 : Int32, r = some (.inl y2) ∧ ((6 ≤ y2 → vp_in y2 14 ∧ vp_in y2 14 ∧ zR κ d Y_BitStream_take 0 [some (.inr 3), some (.inl (tv_5.getD y2.toNatClampNeg 0)), none, none] [] (zms m1 44 3 ((m1 44 3) + 1)) (fun r m3 => ∃ y4 : Int32, r = some (.inl y4) ∧ zR κ (d + 1) Y_Unpacker_readDistance 72 [some (.inr 41), some (.inr 3), some (.inl x2), some (.inl y2), none] [.inl ((tv_4.getD y2.toNatClampNeg 0) + y4)] m3 Q)) ∧ (¬ 6 ≤ y2 → zR κ d Y_Ring_distanceOf 0 [some (.inr 45), some (.inl y2)] [] (zms m1 44 3 ((m1 44 3) + 1)) (fun r m5 => ∃ y6 : Int32, r = some (.inl y6) ∧ zR κ (d + 1) Y_Unpacker_readDistance 72 [some (.inr 41), some (.inr 3), some (.inl x2), some (.inl y2), none] [.inl y6] m5 Q))))) ∧ (x2 = 7 → zR κ d Y_Ring_distanceOf 0 [some (.inr 45), some (.inl 0)] [] mem (fun r m7 => ∃ y8 : Int32, r = some (.inl y8) ∧ Q (some (.inl y8)) m7)))) : zR κ (d + 1) Y_Unpacker_readDistance 0 [some (.inr 41), some (.inr 3), some (.inl x2), none, none] [] mem Q := by
  refine zR_iload_n d_Unpacker_readDistance_0 rfl rfl ?_
  refine zR_bipush (v := 7) d_Unpacker_readDistance_1 (by decide) ?_
  refine zR_icmp_ne (tgt := 15) d_Unpacker_readDistance_3 (by decide) (fun h1 => ?_) (fun h1 => ?_)
  · replace h := h.1 h1
    refine zR_aload_n d_Unpacker_readDistance_15 rfl rfl ?_
    refine zR_getR (j := 3) d_Unpacker_readDistance_16 sh_41 cl_Unpacker rfl (by decide) g_163 ?_
    refine zR_getRN (j := 3) d_Unpacker_readDistance_19 sh_47 cl_Codes rfl (by decide) n_178 ?_
    refine zR_aload_n d_Unpacker_readDistance_22 rfl rfl ?_
    refine zR_callV (Y' := Y_Code_readWord) (n := 1) (A := [.inr 3]) (b := 63) (S := []) v_Code_readWord g_168 sh_63 cl_Code rfl d_Unpacker_readDistance_23 rfl (Nat.le_of_ble_eq_true rfl) rfl (zR_cons ?_ h)
    rintro r_ m1 ⟨y2, rfl, h⟩
    show zR κ (d + 1) Y_Unpacker_readDistance 26 [some (.inr 41), some (.inr 3), some (.inl x2), none, none] [.inl y2] m1 Q
    refine zR_istore_n d_Unpacker_readDistance_26 rfl (by decide) ?_
    refine zR_aload_n d_Unpacker_readDistance_27 rfl rfl ?_
    refine zR_getR (j := 1) d_Unpacker_readDistance_28 sh_41 cl_Unpacker rfl (by decide) g_150 ?_
    refine zR_dup d_Unpacker_readDistance_31 ?_
    refine zR_getIN (j := 3) d_Unpacker_readDistance_32 sh_44 cl_Counts rfl (by decide) n_169 ?_
    refine zR_iconst (v := 1) d_Unpacker_readDistance_35 (by decide) ?_
    refine zR_iadd d_Unpacker_readDistance_36 ?_
    refine zR_putN (j := 3) (ty := .int) d_Unpacker_readDistance_37 sh_44 cl_Counts rfl (by decide) rfl (by decide +kernel) n_169 (zint _) ?_
    refine zR_iload_n d_Unpacker_readDistance_40 rfl rfl ?_
    refine zR_bipush (v := 6) d_Unpacker_readDistance_41 (by decide) ?_
    refine zR_icmp_ge (tgt := 57) d_Unpacker_readDistance_43 (by decide) (fun h1 => ?_) (fun h1 => ?_)
    · replace h := h.1 h1
      refine zR_getT (t := 4) d_Unpacker_readDistance_57 tb_4 n_179 ?_
      refine zR_iload_n d_Unpacker_readDistance_60 rfl rfl ?_
      refine zR_tload (t := 4) d_Unpacker_readDistance_61 tb_4 h.1 rfl ?_
      replace h := h.2
      refine zR_aload_n d_Unpacker_readDistance_62 rfl rfl ?_
      refine zR_getT (t := 5) d_Unpacker_readDistance_63 tb_5 n_180 ?_
      refine zR_iload_n d_Unpacker_readDistance_66 rfl rfl ?_
      refine zR_tload (t := 5) d_Unpacker_readDistance_67 tb_5 h.1 rfl ?_
      replace h := h.2
      refine zR_callV (Y' := Y_BitStream_take) (n := 1) (A := [.inl (tv_5.getD y2.toNatClampNeg 0)]) (b := 3) (S := [.inl (tv_4.getD y2.toNatClampNeg 0)]) v_BitStream_take g_155 sh_3 cl_BitStream rfl d_Unpacker_readDistance_68 rfl (Nat.le_of_ble_eq_true rfl) rfl (zR_cons ?_ h)
      rintro r_ m3 ⟨y4, rfl, h⟩
      show zR κ (d + 1) Y_Unpacker_readDistance 71 [some (.inr 41), some (.inr 3), some (.inl x2), some (.inl y2), none] [.inl y4, .inl (tv_4.getD y2.toNatClampNeg 0)] m3 Q
      refine zR_iadd d_Unpacker_readDistance_71 ?_
      exact h
    · replace h := h.2 h1
      refine zR_aload_n d_Unpacker_readDistance_46 rfl rfl ?_
      refine zR_getR (j := 2) d_Unpacker_readDistance_47 sh_41 cl_Unpacker rfl (by decide) g_152 ?_
      refine zR_iload_n d_Unpacker_readDistance_50 rfl rfl ?_
      refine zR_callV (Y' := Y_Ring_distanceOf) (n := 1) (A := [.inl y2]) (b := 45) (S := []) v_Ring_distanceOf g_181 sh_45 cl_Ring rfl d_Unpacker_readDistance_51 rfl (Nat.le_of_ble_eq_true rfl) rfl (zR_cons ?_ h)
      rintro r_ m5 ⟨y6, rfl, h⟩
      show zR κ (d + 1) Y_Unpacker_readDistance 54 [some (.inr 41), some (.inr 3), some (.inl x2), some (.inl y2), none] [.inl y6] m5 Q
      refine zR_goto (tgt := 72) d_Unpacker_readDistance_54 (by decide) ?_
      exact h
  · replace h := h.2 h1
    refine zR_aload_n d_Unpacker_readDistance_6 rfl rfl ?_
    refine zR_getR (j := 2) d_Unpacker_readDistance_7 sh_41 cl_Unpacker rfl (by decide) g_152 ?_
    refine zR_iconst (v := 0) d_Unpacker_readDistance_10 (by decide) ?_
    refine zR_callV (Y' := Y_Ring_distanceOf) (n := 1) (A := [.inl 0]) (b := 45) (S := []) v_Ring_distanceOf g_181 sh_45 cl_Ring rfl d_Unpacker_readDistance_11 rfl (Nat.le_of_ble_eq_true rfl) rfl (zR_cons ?_ h)
    rintro r_ m7 ⟨y8, rfl, h⟩
    show zR κ (d + 1) Y_Unpacker_readDistance 14 [some (.inr 41), some (.inr 3), some (.inl x2), none, none] [.inl y8] m7 Q
    exact zR_ireturn rfl d_Unpacker_readDistance_14 h
theorem w_Unpacker_readDistance_72 {κ : zK} {d : Nat} {mem : zM} {Q : Option zV → zM → Prop} {x2 x3 s0 : Int32}
    (h : ((x3 = 0 → Q (some (.inl s0)) mem) ∧ (¬ x3 = 0 → (((mem 42 1) < s0 → Q (some (.inl s0)) mem) ∧ (¬ (mem 42 1) < s0 → zR κ d Y_Ring_remember 0 [some (.inr 45), some (.inl s0), none] [] mem (fun r m1 => r = none ∧ Q (some (.inl s0)) m1)))))) : zR κ (d + 1) Y_Unpacker_readDistance 72 [some (.inr 41), some (.inr 3), some (.inl x2), some (.inl x3), none] [.inl s0] mem Q := by
  refine zR_istore d_Unpacker_readDistance_72 (by decide) ?_
  refine zR_iload_n d_Unpacker_readDistance_74 rfl rfl ?_
  refine zR_if_eq (tgt := 99) d_Unpacker_readDistance_75 (by decide) (fun h1 => ?_) (fun h1 => ?_)
  · replace h := h.1 h1
    refine zR_iload d_Unpacker_readDistance_99 rfl ?_
    exact zR_ireturn rfl d_Unpacker_readDistance_101 h
  · replace h := h.2 h1
    refine zR_iload d_Unpacker_readDistance_78 rfl ?_
    refine zR_aload_n d_Unpacker_readDistance_80 rfl rfl ?_
    refine zR_getR (j := 0) d_Unpacker_readDistance_81 sh_41 cl_Unpacker rfl (by decide) g_148 ?_
    refine zR_getIN (j := 1) d_Unpacker_readDistance_84 sh_42 cl_Text rfl (by decide) n_156 ?_
    refine zR_icmp_gt (tgt := 99) d_Unpacker_readDistance_87 (by decide) (fun h1 => ?_) (fun h1 => ?_)
    · replace h := h.1 h1
      refine zR_iload d_Unpacker_readDistance_99 rfl ?_
      exact zR_ireturn rfl d_Unpacker_readDistance_101 h
    · replace h := h.2 h1
      refine zR_aload_n d_Unpacker_readDistance_90 rfl rfl ?_
      refine zR_getR (j := 2) d_Unpacker_readDistance_91 sh_41 cl_Unpacker rfl (by decide) g_152 ?_
      refine zR_iload d_Unpacker_readDistance_94 rfl ?_
      refine zR_callV (Y' := Y_Ring_remember) (n := 1) (A := [.inl s0]) (b := 45) (S := []) v_Ring_remember g_182 sh_45 cl_Ring rfl d_Unpacker_readDistance_96 rfl (Nat.le_of_ble_eq_true rfl) rfl (zR_cons ?_ h)
      rintro r_ m1 ⟨rfl, h⟩
      show zR κ (d + 1) Y_Unpacker_readDistance 99 [some (.inr 41), some (.inr 3), some (.inl x2), some (.inl x3), some (.inl s0)] [] m1 Q
      refine zR_iload d_Unpacker_readDistance_99 rfl ?_
      exact zR_ireturn rfl d_Unpacker_readDistance_101 h
theorem w_Unpacker_yieldCopy_0 {κ : zK} {d : Nat} {mem : zM} {Q : Option zV → zM → Prop} {x1 x2 x3 : Int32}
    (h : ((x1 ≤ (x3 - (mem 42 1)) → zR κ (d + 1) Y_Unpacker_yieldCopy 18 [some (.inr 41), some (.inl x1), some (.inl x2), some (.inl x3), some (.inl 0)] [] mem Q) ∧ (¬ x1 ≤ (x3 - (mem 42 1)) → Q (some (.inl 0)) mem))) : zR κ (d + 1) Y_Unpacker_yieldCopy 0 [some (.inr 41), some (.inl x1), some (.inl x2), some (.inl x3), none] [] mem Q := by
  refine zR_iload_n d_Unpacker_yieldCopy_0 rfl rfl ?_
  refine zR_iload_n d_Unpacker_yieldCopy_1 rfl rfl ?_
  refine zR_aload_n d_Unpacker_yieldCopy_2 rfl rfl ?_
  refine zR_getR (j := 0) d_Unpacker_yieldCopy_3 sh_41 cl_Unpacker rfl (by decide) g_148 ?_
  refine zR_getIN (j := 1) d_Unpacker_yieldCopy_6 sh_42 cl_Text rfl (by decide) n_156 ?_
  refine zR_isub d_Unpacker_yieldCopy_9 ?_
  refine zR_icmp_le (tgt := 15) d_Unpacker_yieldCopy_10 (by decide) (fun h1 => ?_) (fun h1 => ?_)
  · replace h := h.1 h1
    refine zR_iconst (v := 0) d_Unpacker_yieldCopy_15 (by decide) ?_
    refine zR_istore d_Unpacker_yieldCopy_16 (by decide) ?_
    exact h
  · replace h := h.2 h1
    refine zR_iconst (v := 0) d_Unpacker_yieldCopy_13 (by decide) ?_
    exact zR_zreturn rfl d_Unpacker_yieldCopy_14 (Or.inl rfl) h
theorem w_Unpacker_yieldCopy_18 {κ : zK} {d : Nat} {mem : zM} {Q : Option zV → zM → Prop} {x1 x2 x3 x4 : Int32}
    (h : ((x1 ≤ x4 → Q (some (.inl 1)) (zms mem 44 1 ((mem 44 1) + 1))) ∧ (¬ x1 ≤ x4 → zR κ d Y_Text_get 0 [some (.inr 42), some (.inl ((mem 42 1) - x2))] [] mem (fun r m1 => ∃ y2 : Int32, r = some (.inl y2) ∧ zR κ d Y_Text_add 0 [some (.inr 42), some (.inl y2)] [] m1 (fun r m3 => ∃ y4 : Int32, r = some (.inl y4) ∧ zR κ (d + 1) Y_Unpacker_yieldCopy 18 [some (.inr 41), some (.inl x1), some (.inl x2), some (.inl x3), some (.inl (x4 + 1))] [] m3 Q))))) : zR κ (d + 1) Y_Unpacker_yieldCopy 18 [some (.inr 41), some (.inl x1), some (.inl x2), some (.inl x3), some (.inl x4)] [] mem Q := by
  refine zR_iload d_Unpacker_yieldCopy_18 rfl ?_
  refine zR_iload_n d_Unpacker_yieldCopy_20 rfl rfl ?_
  refine zR_icmp_ge (tgt := 54) d_Unpacker_yieldCopy_21 (by decide) (fun h1 => ?_) (fun h1 => ?_)
  · replace h := h.1 h1
    refine zR_aload_n d_Unpacker_yieldCopy_54 rfl rfl ?_
    refine zR_getR (j := 1) d_Unpacker_yieldCopy_55 sh_41 cl_Unpacker rfl (by decide) g_150 ?_
    refine zR_dup d_Unpacker_yieldCopy_58 ?_
    refine zR_getIN (j := 1) d_Unpacker_yieldCopy_59 sh_44 cl_Counts rfl (by decide) n_183 ?_
    refine zR_iconst (v := 1) d_Unpacker_yieldCopy_62 (by decide) ?_
    refine zR_iadd d_Unpacker_yieldCopy_63 ?_
    refine zR_putN (j := 1) (ty := .int) d_Unpacker_yieldCopy_64 sh_44 cl_Counts rfl (by decide) rfl (by decide +kernel) n_183 (zint _) ?_
    refine zR_iconst (v := 1) d_Unpacker_yieldCopy_67 (by decide) ?_
    exact zR_zreturn rfl d_Unpacker_yieldCopy_68 (Or.inr rfl) h
  · replace h := h.2 h1
    refine zR_aload_n d_Unpacker_yieldCopy_24 rfl rfl ?_
    refine zR_getR (j := 0) d_Unpacker_yieldCopy_25 sh_41 cl_Unpacker rfl (by decide) g_148 ?_
    refine zR_aload_n d_Unpacker_yieldCopy_28 rfl rfl ?_
    refine zR_getR (j := 0) d_Unpacker_yieldCopy_29 sh_41 cl_Unpacker rfl (by decide) g_148 ?_
    refine zR_aload_n d_Unpacker_yieldCopy_32 rfl rfl ?_
    refine zR_getR (j := 0) d_Unpacker_yieldCopy_33 sh_41 cl_Unpacker rfl (by decide) g_148 ?_
    refine zR_getIN (j := 1) d_Unpacker_yieldCopy_36 sh_42 cl_Text rfl (by decide) n_156 ?_
    refine zR_iload_n d_Unpacker_yieldCopy_39 rfl rfl ?_
    refine zR_isub d_Unpacker_yieldCopy_40 ?_
    refine zR_callV (Y' := Y_Text_get) (n := 1) (A := [.inl ((mem 42 1) - x2)]) (b := 42) (S := [.inr 42]) v_Text_get g_184 sh_42 cl_Text rfl d_Unpacker_yieldCopy_41 rfl (Nat.le_of_ble_eq_true rfl) rfl (zR_cons ?_ h)
    rintro r_ m1 ⟨y2, rfl, h⟩
    show zR κ (d + 1) Y_Unpacker_yieldCopy 44 [some (.inr 41), some (.inl x1), some (.inl x2), some (.inl x3), some (.inl x4)] [.inl y2, .inr 42] m1 Q
    refine zR_callV (Y' := Y_Text_add) (n := 1) (A := [.inl y2]) (b := 42) (S := []) v_Text_add g_162 sh_42 cl_Text rfl d_Unpacker_yieldCopy_44 rfl (Nat.le_of_ble_eq_true rfl) rfl (zR_cons ?_ h)
    rintro r_ m3 ⟨y4, rfl, h⟩
    show zR κ (d + 1) Y_Unpacker_yieldCopy 47 [some (.inr 41), some (.inl x1), some (.inl x2), some (.inl x3), some (.inl x4)] [.inl y4] m3 Q
    refine zR_pop d_Unpacker_yieldCopy_47 ?_
    refine zR_iinc (v := 1) d_Unpacker_yieldCopy_48 rfl (by decide) (by decide) ?_
    refine zR_goto (tgt := 18) d_Unpacker_yieldCopy_51 (by decide) ?_
    exact h
theorem w_Unpacker_yieldWord_0 {κ : zK} {d : Nat} {mem : zM} {Q : Option zV → zM → Prop} {x1 x2 x3 : Int32}
    (h : ((x1 = 4 → zR κ (d + 1) Y_Unpacker_yieldWord 10 [some (.inr 41), some (.inl x1), some (.inl x2), some (.inl x3), none, none] [] mem Q) ∧ (¬ x1 = 4 → ((¬ x1 = 5 → Q (some (.inl 0)) mem) ∧ (x1 = 5 → zR κ (d + 1) Y_Unpacker_yieldWord 10 [some (.inr 41), some (.inl x1), some (.inl x2), some (.inl x3), none, none] [] mem Q))))) : zR κ (d + 1) Y_Unpacker_yieldWord 0 [some (.inr 41), some (.inl x1), some (.inl x2), some (.inl x3), none, none] [] mem Q := by
  refine zR_iload_n d_Unpacker_yieldWord_0 rfl rfl ?_
  refine zR_iconst (v := 4) d_Unpacker_yieldWord_1 (by decide) ?_
  refine zR_icmp_eq (tgt := 10) d_Unpacker_yieldWord_2 (by decide) (fun h1 => ?_) (fun h1 => ?_)
  · replace h := h.1 h1
    exact h
  · replace h := h.2 h1
    refine zR_iload_n d_Unpacker_yieldWord_5 rfl rfl ?_
    refine zR_iconst (v := 5) d_Unpacker_yieldWord_6 (by decide) ?_
    refine zR_icmp_ne (tgt := 16) d_Unpacker_yieldWord_7 (by decide) (fun h1 => ?_) (fun h1 => ?_)
    · replace h := h.1 h1
      refine zR_iconst (v := 0) d_Unpacker_yieldWord_16 (by decide) ?_
      exact zR_zreturn rfl d_Unpacker_yieldWord_17 (Or.inl rfl) h
    · replace h := h.2 h1
      exact h
theorem w_Unpacker_yieldWord_10 {κ : zK} {d : Nat} {mem : zM} {Q : Option zV → zM → Prop} {x1 x2 x3 : Int32}
    (h : ((x2 < 16 → zR κ d Y_Words_yieldOf 0 [some (.inl x1), some (.inl x2), none] [] mem (fun r m1 => ∃ y2 : Int32, r = some (.inl y2) ∧ ((y2 ≤ (x3 - (m1 42 1)) → zR κ (d + 1) Y_Unpacker_yieldWord 44 [some (.inr 41), some (.inl x1), some (.inl x2), some (.inl x3), some (.inl y2), some (.inl 0)] [] m1 Q) ∧ (¬ y2 ≤ (x3 - (m1 42 1)) → Q (some (.inl 0)) m1)))) ∧ (¬ x2 < 16 → Q (some (.inl 0)) mem))) : zR κ (d + 1) Y_Unpacker_yieldWord 10 [some (.inr 41), some (.inl x1), some (.inl x2), some (.inl x3), none, none] [] mem Q := by
  refine zR_iload_n d_Unpacker_yieldWord_10 rfl rfl ?_
  refine zR_bipush (v := 16) d_Unpacker_yieldWord_11 (by decide) ?_
  refine zR_icmp_lt (tgt := 18) d_Unpacker_yieldWord_13 (by decide) (fun h1 => ?_) (fun h1 => ?_)
  · replace h := h.1 h1
    refine zR_iload_n d_Unpacker_yieldWord_18 rfl rfl ?_
    refine zR_iload_n d_Unpacker_yieldWord_19 rfl rfl ?_
    refine zR_callS (Y' := Y_Words_yieldOf) (n := 2) (A := [.inl x1, .inl x2]) (S := []) v_Words_yieldOf g_185 d_Unpacker_yieldWord_20 rfl (Nat.le_of_ble_eq_true rfl) rfl (zR_cons ?_ h)
    rintro r_ m1 ⟨y2, rfl, h⟩
    show zR κ (d + 1) Y_Unpacker_yieldWord 23 [some (.inr 41), some (.inl x1), some (.inl x2), some (.inl x3), none, none] [.inl y2] m1 Q
    refine zR_istore d_Unpacker_yieldWord_23 (by decide) ?_
    refine zR_iload d_Unpacker_yieldWord_25 rfl ?_
    refine zR_iload_n d_Unpacker_yieldWord_27 rfl rfl ?_
    refine zR_aload_n d_Unpacker_yieldWord_28 rfl rfl ?_
    refine zR_getR (j := 0) d_Unpacker_yieldWord_29 sh_41 cl_Unpacker rfl (by decide) g_148 ?_
    refine zR_getIN (j := 1) d_Unpacker_yieldWord_32 sh_42 cl_Text rfl (by decide) n_156 ?_
    refine zR_isub d_Unpacker_yieldWord_35 ?_
    refine zR_icmp_le (tgt := 41) d_Unpacker_yieldWord_36 (by decide) (fun h1 => ?_) (fun h1 => ?_)
    · replace h := h.1 h1
      refine zR_iconst (v := 0) d_Unpacker_yieldWord_41 (by decide) ?_
      refine zR_istore d_Unpacker_yieldWord_42 (by decide) ?_
      exact h
    · replace h := h.2 h1
      refine zR_iconst (v := 0) d_Unpacker_yieldWord_39 (by decide) ?_
      exact zR_zreturn rfl d_Unpacker_yieldWord_40 (Or.inl rfl) h
  · replace h := h.2 h1
    refine zR_iconst (v := 0) d_Unpacker_yieldWord_16 (by decide) ?_
    exact zR_zreturn rfl d_Unpacker_yieldWord_17 (Or.inl rfl) h
theorem w_Unpacker_yieldWord_44 {κ : zK} {d : Nat} {mem : zM} {Q : Option zV → zM → Prop} {x1 x2 x3 x4 x5 : Int32}
    (h : ((x4 ≤ x5 → Q (some (.inl 1)) (zms mem 44 2 ((mem 44 2) + 1))) ∧ (¬ x4 ≤ x5 → zR κ d Y_Words_byteOf 0 [some (.inl x1), some (.inl x2), some (.inl x5), none, none, none, none] [] mem (fun r m1 => ∃ y2 : Int32, r = some (.inl y2) ∧ zR κ d Y_Text_add 0 [some (.inr 42), some (.inl y2)] [] m1 (fun r m3 => ∃ y4 : Int32, r = some (.inl y4) ∧ zR κ (d + 1) Y_Unpacker_yieldWord 44 [some (.inr 41), some (.inl x1), some (.inl x2), some (.inl x3), some (.inl x4), some (.inl (x5 + 1))] [] m3 Q))))) : zR κ (d + 1) Y_Unpacker_yieldWord 44 [some (.inr 41), some (.inl x1), some (.inl x2), some (.inl x3), some (.inl x4), some (.inl x5)] [] mem Q := by
  refine zR_iload d_Unpacker_yieldWord_44 rfl ?_
  refine zR_iload d_Unpacker_yieldWord_46 rfl ?_
  refine zR_icmp_ge (tgt := 72) d_Unpacker_yieldWord_48 (by decide) (fun h1 => ?_) (fun h1 => ?_)
  · replace h := h.1 h1
    refine zR_aload_n d_Unpacker_yieldWord_72 rfl rfl ?_
    refine zR_getR (j := 1) d_Unpacker_yieldWord_73 sh_41 cl_Unpacker rfl (by decide) g_150 ?_
    refine zR_dup d_Unpacker_yieldWord_76 ?_
    refine zR_getIN (j := 2) d_Unpacker_yieldWord_77 sh_44 cl_Counts rfl (by decide) n_186 ?_
    refine zR_iconst (v := 1) d_Unpacker_yieldWord_80 (by decide) ?_
    refine zR_iadd d_Unpacker_yieldWord_81 ?_
    refine zR_putN (j := 2) (ty := .int) d_Unpacker_yieldWord_82 sh_44 cl_Counts rfl (by decide) rfl (by decide +kernel) n_186 (zint _) ?_
    refine zR_iconst (v := 1) d_Unpacker_yieldWord_85 (by decide) ?_
    exact zR_zreturn rfl d_Unpacker_yieldWord_86 (Or.inr rfl) h
  · replace h := h.2 h1
    refine zR_aload_n d_Unpacker_yieldWord_51 rfl rfl ?_
    refine zR_getR (j := 0) d_Unpacker_yieldWord_52 sh_41 cl_Unpacker rfl (by decide) g_148 ?_
    refine zR_iload_n d_Unpacker_yieldWord_55 rfl rfl ?_
    refine zR_iload_n d_Unpacker_yieldWord_56 rfl rfl ?_
    refine zR_iload d_Unpacker_yieldWord_57 rfl ?_
    refine zR_callS (Y' := Y_Words_byteOf) (n := 3) (A := [.inl x1, .inl x2, .inl x5]) (S := [.inr 42]) v_Words_byteOf g_187 d_Unpacker_yieldWord_59 rfl (Nat.le_of_ble_eq_true rfl) rfl (zR_cons ?_ h)
    rintro r_ m1 ⟨y2, rfl, h⟩
    show zR κ (d + 1) Y_Unpacker_yieldWord 62 [some (.inr 41), some (.inl x1), some (.inl x2), some (.inl x3), some (.inl x4), some (.inl x5)] [.inl y2, .inr 42] m1 Q
    refine zR_callV (Y' := Y_Text_add) (n := 1) (A := [.inl y2]) (b := 42) (S := []) v_Text_add g_162 sh_42 cl_Text rfl d_Unpacker_yieldWord_62 rfl (Nat.le_of_ble_eq_true rfl) rfl (zR_cons ?_ h)
    rintro r_ m3 ⟨y4, rfl, h⟩
    show zR κ (d + 1) Y_Unpacker_yieldWord 65 [some (.inr 41), some (.inl x1), some (.inl x2), some (.inl x3), some (.inl x4), some (.inl x5)] [.inl y4] m3 Q
    refine zR_pop d_Unpacker_yieldWord_65 ?_
    refine zR_iinc (v := 1) d_Unpacker_yieldWord_66 rfl (by decide) (by decide) ?_
    refine zR_goto (tgt := 44) d_Unpacker_yieldWord_69 (by decide) ?_
    exact h
