/-! pieces of RingPacker$Plan -/
theorem w_Plan_parse_0 {κ : zK} {d : Nat} {mem : zM} {Q : Option zV → zM → Prop} {c c1 : Nat} {x2 x3 : Int32} (hc : is_Text c) (hc1 : is_Ring c1)
    (h : zR κ d Y_Ring_become 0 [some (.inr 33), some (.inr c1)] [] mem (fun r m1 => r = none ∧ zR κ (d + 1) Y_Plan_parse 38 [some (.inr 31), some (.inr c), some (.inl x2), some (.inl x3), some (.inr c1), some (.inl x2), some (.inl x2), some (.inl 0)] [] (zms (zms (zms (zms m1 31 8 0) 31 9 0) 31 10 0) 31 11 0) Q)) : zR κ (d + 1) Y_Plan_parse 0 [some (.inr 31), some (.inr c), some (.inl x2), some (.inl x3), some (.inr c1), none, none, none] [] mem Q := by
  refine zR_aload_n d_Plan_parse_0 rfl rfl ?_
  refine zR_getR (j := 1) d_Plan_parse_1 sh_31 cl_Plan rfl (by decide) g_104 ?_
  refine zR_aload d_Plan_parse_4 rfl ?_
  refine zR_callV (Y' := Y_Ring_become) (n := 1) (A := [.inr c1]) (b := 33) (S := []) v_Ring_become g_105 sh_33 cl_Ring rfl d_Plan_parse_6 rfl (Nat.le_of_ble_eq_true rfl) rfl (zR_cons ?_ h)
  rintro r_ m1 ⟨rfl, h⟩
  show zR κ (d + 1) Y_Plan_parse 9 [some (.inr 31), some (.inr c), some (.inl x2), some (.inl x3), some (.inr c1), none, none, none] [] m1 Q
  refine zR_aload_n d_Plan_parse_9 rfl rfl ?_
  refine zR_iconst (v := 0) d_Plan_parse_10 (by decide) ?_
  refine zR_put (j := 8) (ty := .int) d_Plan_parse_11 sh_31 cl_Plan rfl (by decide) rfl (by decide +kernel) g_106 (zint _) ?_
  refine zR_aload_n d_Plan_parse_14 rfl rfl ?_
  refine zR_iconst (v := 0) d_Plan_parse_15 (by decide) ?_
  refine zR_put (j := 9) (ty := .int) d_Plan_parse_16 sh_31 cl_Plan rfl (by decide) rfl (by decide +kernel) g_107 (zint _) ?_
  refine zR_aload_n d_Plan_parse_19 rfl rfl ?_
  refine zR_iconst (v := 0) d_Plan_parse_20 (by decide) ?_
  refine zR_put (j := 10) (ty := .int) d_Plan_parse_21 sh_31 cl_Plan rfl (by decide) rfl (by decide +kernel) g_108 (zint _) ?_
  refine zR_aload_n d_Plan_parse_24 rfl rfl ?_
  refine zR_iconst (v := 0) d_Plan_parse_25 (by decide) ?_
  refine zR_put (j := 11) (ty := .int) d_Plan_parse_26 sh_31 cl_Plan rfl (by decide) rfl (by decide +kernel) g_109 (zint _) ?_
  refine zR_iload_n d_Plan_parse_29 rfl rfl ?_
  refine zR_istore d_Plan_parse_30 (by decide) ?_
  refine zR_iload_n d_Plan_parse_32 rfl rfl ?_
  refine zR_istore d_Plan_parse_33 (by decide) ?_
  refine zR_iconst (v := 0) d_Plan_parse_35 (by decide) ?_
  refine zR_istore d_Plan_parse_36 (by decide) ?_
  exact h
theorem w_Plan_parse_38 {κ : zK} {d : Nat} {mem : zM} {Q : Option zV → zM → Prop} {c c1 : Nat} {x2 x3 x5 x6 x7 : Int32} (hc : is_Text c) (hc1 : is_Ring c1)
    (h : ((48 ≤ x7 → zR κ (d + 1) Y_Plan_parse 156 [some (.inr 31), some (.inr c), some (.inl x2), some (.inl x3), some (.inr c1), some (.inl x5), some (.inl x6), some (.inl x7)] [] mem Q) ∧ (¬ 48 ≤ x7 → ((x3 ≤ x6 → zR κ (d + 1) Y_Plan_parse 156 [some (.inr 31), some (.inr c), some (.inl x2), some (.inl x3), some (.inr c1), some (.inl x5), some (.inl x6), some (.inl x7)] [] mem Q) ∧ (¬ x3 ≤ x6 → zR κ d Y_Finder_findCopy 0 [some (.inr 32), some (.inr c), some (.inl x6), some (.inl x3), none, none, none] [] mem (fun r m1 => r = none ∧ zR κ d Y_Finder_findWord 0 [some (.inr 32), some (.inr c), some (.inl x6), some (.inl x3), none, none, none] [] m1 (fun r m2 => r = none ∧ zR κ d Y_Finder_isWord 0 [some (.inr 32)] [] m2 (fun r m3 => ∃ y4 : Int32, r = some (.inl y4) ∧ ((y4 = 0 → zR κ d Y_Finder_isCopy 0 [some (.inr 32)] [] m3 (fun r m5 => ∃ y6 : Int32, r = some (.inl y6) ∧ ((y6 = 0 → zR κ (d + 1) Y_Plan_parse 38 [some (.inr 31), some (.inr c), some (.inl x2), some (.inl x3), some (.inr c1), some (.inl x5), some (.inl (x6 + 1)), some (.inl (x7 + 1))] [] m5 Q) ∧ (¬ y6 = 0 → zR κ d Y_Plan_addCopy 0 [some (.inr 31), some (.inl x5), some (.inl x6), none, none, none] [] m5 (fun r m7 => r = none ∧ zR κ (d + 1) Y_Plan_parse 38 [some (.inr 31), some (.inr c), some (.inl x2), some (.inl x3), some (.inr c1), some (.inl (x6 + (m7 32 0))), some (.inl (x6 + (m7 32 0))), some (.inl (x7 + 1))] [] m7 Q))))) ∧ (¬ y4 = 0 → zR κ d Y_Plan_addWord 0 [some (.inr 31), some (.inl x5), some (.inl x6), none, none] [] m3 (fun r m8 => r = none ∧ zR κ (d + 1) Y_Plan_parse 38 [some (.inr 31), some (.inr c), some (.inl x2), some (.inl x3), some (.inr c1), some (.inl (x6 + (m8 32 2))), some (.inl (x6 + (m8 32 2))), some (.inl (x7 + 1))] [] m8 Q))))))))))) : zR κ (d + 1) Y_Plan_parse 38 [some (.inr 31), some (.inr c), some (.inl x2), some (.inl x3), some (.inr c1), some (.inl x5), some (.inl x6), some (.inl x7)] [] mem Q := by
  refine zR_iload d_Plan_parse_38 rfl ?_
  refine zR_bipush (v := 48) d_Plan_parse_40 (by decide) ?_
  refine zR_icmp_ge (tgt := 156) d_Plan_parse_42 (by decide) (fun h1 => ?_) (fun h1 => ?_)
  · replace h := h.1 h1
    exact h
  · replace h := h.2 h1
    refine zR_iload d_Plan_parse_45 rfl ?_
    refine zR_iload_n d_Plan_parse_47 rfl rfl ?_
    refine zR_icmp_ge (tgt := 156) d_Plan_parse_48 (by decide) (fun h1 => ?_) (fun h1 => ?_)
    · replace h := h.1 h1
      exact h
    · replace h := h.2 h1
      refine zR_aload_n d_Plan_parse_51 rfl rfl ?_
      refine zR_getR (j := 0) d_Plan_parse_52 sh_31 cl_Plan rfl (by decide) g_110 ?_
      refine zR_aload_n d_Plan_parse_55 rfl rfl ?_
      refine zR_iload d_Plan_parse_56 rfl ?_
      refine zR_iload_n d_Plan_parse_58 rfl rfl ?_
      refine zR_callV (Y' := Y_Finder_findCopy) (n := 3) (A := [.inr c, .inl x6, .inl x3]) (b := 32) (S := []) v_Finder_findCopy g_111 sh_32 cl_Finder rfl d_Plan_parse_59 rfl (Nat.le_of_ble_eq_true rfl) rfl (zR_cons ?_ h)
      rintro r_ m1 ⟨rfl, h⟩
      show zR κ (d + 1) Y_Plan_parse 62 [some (.inr 31), some (.inr c), some (.inl x2), some (.inl x3), some (.inr c1), some (.inl x5), some (.inl x6), some (.inl x7)] [] m1 Q
      refine zR_aload_n d_Plan_parse_62 rfl rfl ?_
      refine zR_getR (j := 0) d_Plan_parse_63 sh_31 cl_Plan rfl (by decide) g_110 ?_
      refine zR_aload_n d_Plan_parse_66 rfl rfl ?_
      refine zR_iload d_Plan_parse_67 rfl ?_
      refine zR_iload_n d_Plan_parse_69 rfl rfl ?_
      refine zR_callV (Y' := Y_Finder_findWord) (n := 3) (A := [.inr c, .inl x6, .inl x3]) (b := 32) (S := []) v_Finder_findWord g_112 sh_32 cl_Finder rfl d_Plan_parse_70 rfl (Nat.le_of_ble_eq_true rfl) rfl (zR_cons ?_ h)
      rintro r_ m2 ⟨rfl, h⟩
      show zR κ (d + 1) Y_Plan_parse 73 [some (.inr 31), some (.inr c), some (.inl x2), some (.inl x3), some (.inr c1), some (.inl x5), some (.inl x6), some (.inl x7)] [] m2 Q
      refine zR_aload_n d_Plan_parse_73 rfl rfl ?_
      refine zR_getR (j := 0) d_Plan_parse_74 sh_31 cl_Plan rfl (by decide) g_110 ?_
      refine zR_callV (Y' := Y_Finder_isWord) (n := 0) (A := []) (b := 32) (S := []) v_Finder_isWord g_113 sh_32 cl_Finder rfl d_Plan_parse_77 rfl (Nat.le_of_ble_eq_true rfl) rfl (zR_cons ?_ h)
      rintro r_ m3 ⟨y4, rfl, h⟩
      show zR κ (d + 1) Y_Plan_parse 80 [some (.inr 31), some (.inr c), some (.inl x2), some (.inl x3), some (.inr c1), some (.inl x5), some (.inl x6), some (.inl x7)] [.inl y4] m3 Q
      refine zR_if_eq (tgt := 110) d_Plan_parse_80 (by decide) (fun h1 => ?_) (fun h1 => ?_)
      · replace h := h.1 h1
        refine zR_aload_n d_Plan_parse_110 rfl rfl ?_
        refine zR_getR (j := 0) d_Plan_parse_111 sh_31 cl_Plan rfl (by decide) g_110 ?_
        refine zR_callV (Y' := Y_Finder_isCopy) (n := 0) (A := []) (b := 32) (S := []) v_Finder_isCopy g_114 sh_32 cl_Finder rfl d_Plan_parse_114 rfl (Nat.le_of_ble_eq_true rfl) rfl (zR_cons ?_ h)
        rintro r_ m5 ⟨y6, rfl, h⟩
        show zR κ (d + 1) Y_Plan_parse 117 [some (.inr 31), some (.inr c), some (.inl x2), some (.inl x3), some (.inr c1), some (.inl x5), some (.inl x6), some (.inl x7)] [.inl y6] m5 Q
        refine zR_if_eq (tgt := 147) d_Plan_parse_117 (by decide) (fun h1 => ?_) (fun h1 => ?_)
        · replace h := h.1 h1
          refine zR_iinc (v := 1) d_Plan_parse_147 rfl (by decide) (by decide) ?_
          refine zR_iinc (v := 1) d_Plan_parse_150 rfl (by decide) (by decide) ?_
          refine zR_goto (tgt := 38) d_Plan_parse_153 (by decide) ?_
          exact h
        · replace h := h.2 h1
          refine zR_aload_n d_Plan_parse_120 rfl rfl ?_
          refine zR_iload d_Plan_parse_121 rfl ?_
          refine zR_iload d_Plan_parse_123 rfl ?_
          refine zR_callV (Y' := Y_Plan_addCopy) (n := 2) (A := [.inl x5, .inl x6]) (b := 31) (S := []) v_Plan_addCopy g_115 sh_31 cl_Plan rfl d_Plan_parse_125 rfl (Nat.le_of_ble_eq_true rfl) rfl (zR_cons ?_ h)
          rintro r_ m7 ⟨rfl, h⟩
          show zR κ (d + 1) Y_Plan_parse 128 [some (.inr 31), some (.inr c), some (.inl x2), some (.inl x3), some (.inr c1), some (.inl x5), some (.inl x6), some (.inl x7)] [] m7 Q
          refine zR_iload d_Plan_parse_128 rfl ?_
          refine zR_aload_n d_Plan_parse_130 rfl rfl ?_
          refine zR_getR (j := 0) d_Plan_parse_131 sh_31 cl_Plan rfl (by decide) g_110 ?_
          refine zR_getIN (j := 0) d_Plan_parse_134 sh_32 cl_Finder rfl (by decide) n_116 ?_
          refine zR_iadd d_Plan_parse_137 ?_
          refine zR_istore d_Plan_parse_138 (by decide) ?_
          refine zR_iload d_Plan_parse_140 rfl ?_
          refine zR_istore d_Plan_parse_142 (by decide) ?_
          refine zR_goto (tgt := 150) d_Plan_parse_144 (by decide) ?_
          refine zR_iinc (v := 1) d_Plan_parse_150 rfl (by decide) (by decide) ?_
          refine zR_goto (tgt := 38) d_Plan_parse_153 (by decide) ?_
          exact h
      · replace h := h.2 h1
        refine zR_aload_n d_Plan_parse_83 rfl rfl ?_
        refine zR_iload d_Plan_parse_84 rfl ?_
        refine zR_iload d_Plan_parse_86 rfl ?_
        refine zR_callV (Y' := Y_Plan_addWord) (n := 2) (A := [.inl x5, .inl x6]) (b := 31) (S := []) v_Plan_addWord g_117 sh_31 cl_Plan rfl d_Plan_parse_88 rfl (Nat.le_of_ble_eq_true rfl) rfl (zR_cons ?_ h)
        rintro r_ m8 ⟨rfl, h⟩
        show zR κ (d + 1) Y_Plan_parse 91 [some (.inr 31), some (.inr c), some (.inl x2), some (.inl x3), some (.inr c1), some (.inl x5), some (.inl x6), some (.inl x7)] [] m8 Q
        refine zR_iload d_Plan_parse_91 rfl ?_
        refine zR_aload_n d_Plan_parse_93 rfl rfl ?_
        refine zR_getR (j := 0) d_Plan_parse_94 sh_31 cl_Plan rfl (by decide) g_110 ?_
        refine zR_getIN (j := 2) d_Plan_parse_97 sh_32 cl_Finder rfl (by decide) n_118 ?_
        refine zR_iadd d_Plan_parse_100 ?_
        refine zR_istore d_Plan_parse_101 (by decide) ?_
        refine zR_iload d_Plan_parse_103 rfl ?_
        refine zR_istore d_Plan_parse_105 (by decide) ?_
        refine zR_goto (tgt := 150) d_Plan_parse_107 (by decide) ?_
        refine zR_iinc (v := 1) d_Plan_parse_150 rfl (by decide) (by decide) ?_
        refine zR_goto (tgt := 38) d_Plan_parse_153 (by decide) ?_
        exact h
theorem w_Plan_parse_156 {κ : zK} {d : Nat} {mem : zM} {Q : Option zV → zM → Prop} {c c1 : Nat} {x2 x3 x5 x6 x7 : Int32} (hc : is_Text c) (hc1 : is_Ring c1)
    (h : ((x3 ≤ x5 → Q none mem) ∧ (¬ x3 ≤ x5 → zR κ d Y_Plan_addCommand 0 [some (.inr 31), some (.inl x5), some (.inl x3), some (.inl 0), some (.inl (tv_2.getD 0 0)), some (.inl (-1)), some (.inl 0)] [] mem (fun r m1 => r = none ∧ Q none m1)))) : zR κ (d + 1) Y_Plan_parse 156 [some (.inr 31), some (.inr c), some (.inl x2), some (.inl x3), some (.inr c1), some (.inl x5), some (.inl x6), some (.inl x7)] [] mem Q := by
  refine zR_iload d_Plan_parse_156 rfl ?_
  refine zR_iload_n d_Plan_parse_158 rfl rfl ?_
  refine zR_icmp_ge (tgt := 177) d_Plan_parse_159 (by decide) (fun h1 => ?_) (fun h1 => ?_)
  · replace h := h.1 h1
    exact zR_return rfl d_Plan_parse_177 h
  · replace h := h.2 h1
    refine zR_aload_n d_Plan_parse_162 rfl rfl ?_
    refine zR_iload d_Plan_parse_163 rfl ?_
    refine zR_iload_n d_Plan_parse_165 rfl rfl ?_
    refine zR_iconst (v := 0) d_Plan_parse_166 (by decide) ?_
    refine zR_getT (t := 2) d_Plan_parse_167 tb_2 n_119 ?_
    refine zR_iconst (v := 0) d_Plan_parse_170 (by decide) ?_
    refine zR_tload (t := 2) (j := 0) d_Plan_parse_171 tb_2 (vp_in_nI (n := 0) (by decide) (by decide)) (by decide) ?_
    refine zR_iconst (v := (-1)) d_Plan_parse_172 (by decide) ?_
    refine zR_iconst (v := 0) d_Plan_parse_173 (by decide) ?_
    refine zR_callV (Y' := Y_Plan_addCommand) (n := 6) (A := [.inl x5, .inl x3, .inl 0, .inl (tv_2.getD 0 0), .inl (-1), .inl 0]) (b := 31) (S := []) v_Plan_addCommand g_120 sh_31 cl_Plan rfl d_Plan_parse_174 rfl (Nat.le_of_ble_eq_true rfl) rfl (zR_cons ?_ h)
    rintro r_ m1 ⟨rfl, h⟩
    show zR κ (d + 1) Y_Plan_parse 177 [some (.inr 31), some (.inr c), some (.inl x2), some (.inl x3), some (.inr c1), some (.inl x5), some (.inl x6), some (.inl x7)] [] m1 Q
    exact zR_return rfl d_Plan_parse_177 h
theorem w_Plan_addWord_0 {κ : zK} {d : Nat} {mem : zM} {Q : Option zV → zM → Prop} {x1 x2 : Int32}
    (h : zR κ d Y_Plan_copySymbolOf 0 [some (.inl (mem 32 3)), none] [] mem (fun r m1 => ∃ y2 : Int32, r = some (.inl y2) ∧ zR κ d Y_Ring_plainSymbolOf 0 [some (.inl ((x2 + 1) + (mem 32 4))), none] [] m1 (fun r m3 => ∃ y4 : Int32, r = some (.inl y4) ∧ zR κ d Y_Plan_addCommand 0 [some (.inr 31), some (.inl x1), some (.inl x2), some (.inl y2), some (.inl (mem 32 3)), some (.inl y4), some (.inl ((x2 + 1) + (mem 32 4)))] [] m3 (fun r m5 => r = none ∧ Q none (zms m5 31 10 ((m5 31 10) + 1)))))) : zR κ (d + 1) Y_Plan_addWord 0 [some (.inr 31), some (.inl x1), some (.inl x2), none, none] [] mem Q := by
  refine zR_aload_n d_Plan_addWord_0 rfl rfl ?_
  refine zR_getR (j := 0) d_Plan_addWord_1 sh_31 cl_Plan rfl (by decide) g_110 ?_
  refine zR_getIN (j := 3) d_Plan_addWord_4 sh_32 cl_Finder rfl (by decide) n_121 ?_
  refine zR_istore_n d_Plan_addWord_7 rfl (by decide) ?_
  refine zR_iload_n d_Plan_addWord_8 rfl rfl ?_
  refine zR_iconst (v := 1) d_Plan_addWord_9 (by decide) ?_
  refine zR_iadd d_Plan_addWord_10 ?_
  refine zR_aload_n d_Plan_addWord_11 rfl rfl ?_
  refine zR_getR (j := 0) d_Plan_addWord_12 sh_31 cl_Plan rfl (by decide) g_110 ?_
  refine zR_getIN (j := 4) d_Plan_addWord_15 sh_32 cl_Finder rfl (by decide) n_122 ?_
  refine zR_iadd d_Plan_addWord_18 ?_
  refine zR_istore d_Plan_addWord_19 (by decide) ?_
  refine zR_aload_n d_Plan_addWord_21 rfl rfl ?_
  refine zR_iload_n d_Plan_addWord_22 rfl rfl ?_
  refine zR_iload_n d_Plan_addWord_23 rfl rfl ?_
  refine zR_iload_n d_Plan_addWord_24 rfl rfl ?_
  refine zR_callS (Y' := Y_Plan_copySymbolOf) (n := 1) (A := [.inl (mem 32 3)]) (S := [.inl x2, .inl x1, .inr 31]) v_Plan_copySymbolOf g_123 d_Plan_addWord_25 rfl (Nat.le_of_ble_eq_true rfl) rfl (zR_cons ?_ h)
  rintro r_ m1 ⟨y2, rfl, h⟩
  show zR κ (d + 1) Y_Plan_addWord 28 [some (.inr 31), some (.inl x1), some (.inl x2), some (.inl (mem 32 3)), some (.inl ((x2 + 1) + (mem 32 4)))] [.inl y2, .inl x2, .inl x1, .inr 31] m1 Q
  refine zR_iload_n d_Plan_addWord_28 rfl rfl ?_
  refine zR_iload d_Plan_addWord_29 rfl ?_
  refine zR_callS (Y' := Y_Ring_plainSymbolOf) (n := 1) (A := [.inl ((x2 + 1) + (mem 32 4))]) (S := [.inl (mem 32 3), .inl y2, .inl x2, .inl x1, .inr 31]) v_Ring_plainSymbolOf g_124 d_Plan_addWord_31 rfl (Nat.le_of_ble_eq_true rfl) rfl (zR_cons ?_ h)
  rintro r_ m3 ⟨y4, rfl, h⟩
  show zR κ (d + 1) Y_Plan_addWord 34 [some (.inr 31), some (.inl x1), some (.inl x2), some (.inl (mem 32 3)), some (.inl ((x2 + 1) + (mem 32 4)))] [.inl y4, .inl (mem 32 3), .inl y2, .inl x2, .inl x1, .inr 31] m3 Q
  refine zR_iload d_Plan_addWord_34 rfl ?_
  refine zR_callV (Y' := Y_Plan_addCommand) (n := 6) (A := [.inl x1, .inl x2, .inl y2, .inl (mem 32 3), .inl y4, .inl ((x2 + 1) + (mem 32 4))]) (b := 31) (S := []) v_Plan_addCommand g_120 sh_31 cl_Plan rfl d_Plan_addWord_36 rfl (Nat.le_of_ble_eq_true rfl) rfl (zR_cons ?_ h)
  rintro r_ m5 ⟨rfl, h⟩
  show zR κ (d + 1) Y_Plan_addWord 39 [some (.inr 31), some (.inl x1), some (.inl x2), some (.inl (mem 32 3)), some (.inl ((x2 + 1) + (mem 32 4)))] [] m5 Q
  refine zR_aload_n d_Plan_addWord_39 rfl rfl ?_
  refine zR_dup d_Plan_addWord_40 ?_
  refine zR_getI (j := 10) d_Plan_addWord_41 sh_31 cl_Plan rfl (by decide) g_108 ?_
  refine zR_iconst (v := 1) d_Plan_addWord_44 (by decide) ?_
  refine zR_iadd d_Plan_addWord_45 ?_
  refine zR_put (j := 10) (ty := .int) d_Plan_addWord_46 sh_31 cl_Plan rfl (by decide) rfl (by decide +kernel) g_108 (zint _) ?_
  exact zR_return rfl d_Plan_addWord_49 h
theorem w_Plan_addCopy_0 {κ : zK} {d : Nat} {mem : zM} {Q : Option zV → zM → Prop} {x1 x2 : Int32}
    (h : ((¬ (mem 32 0) = 3 → zR κ (d + 1) Y_Plan_addCopy 57 [some (.inr 31), some (.inl x1), some (.inl x2), some (.inl (mem 32 0)), some (.inl (mem 32 1)), none] [] (zms mem 31 9 ((mem 31 9) + 1)) Q) ∧ ((mem 32 0) = 3 → zR κ d Y_Ring_isLatest 0 [some (.inr 33), some (.inl (mem 32 1))] [] (zms mem 31 9 ((mem 31 9) + 1)) (fun r m1 => ∃ y2 : Int32, r = some (.inl y2) ∧ ((y2 = 0 → zR κ (d + 1) Y_Plan_addCopy 57 [some (.inr 31), some (.inl x1), some (.inl x2), some (.inl (mem 32 0)), some (.inl (mem 32 1)), none] [] m1 Q) ∧ (¬ y2 = 0 → zR κ d Y_Plan_addCommand 0 [some (.inr 31), some (.inl x1), some (.inl x2), some (.inl 7), some (.inl (mem 32 0)), some (.inl (-1)), some (.inl (mem 32 1))] [] m1 (fun r m3 => r = none ∧ Q none m3))))))) : zR κ (d + 1) Y_Plan_addCopy 0 [some (.inr 31), some (.inl x1), some (.inl x2), none, none, none] [] mem Q := by
  refine zR_aload_n d_Plan_addCopy_0 rfl rfl ?_
  refine zR_getR (j := 0) d_Plan_addCopy_1 sh_31 cl_Plan rfl (by decide) g_110 ?_
  refine zR_getIN (j := 0) d_Plan_addCopy_4 sh_32 cl_Finder rfl (by decide) n_116 ?_
  refine zR_istore_n d_Plan_addCopy_7 rfl (by decide) ?_
  refine zR_aload_n d_Plan_addCopy_8 rfl rfl ?_
  refine zR_getR (j := 0) d_Plan_addCopy_9 sh_31 cl_Plan rfl (by decide) g_110 ?_
  refine zR_getIN (j := 1) d_Plan_addCopy_12 sh_32 cl_Finder rfl (by decide) n_125 ?_
  refine zR_istore d_Plan_addCopy_15 (by decide) ?_
  refine zR_aload_n d_Plan_addCopy_17 rfl rfl ?_
  refine zR_dup d_Plan_addCopy_18 ?_
  refine zR_getI (j := 9) d_Plan_addCopy_19 sh_31 cl_Plan rfl (by decide) g_107 ?_
  refine zR_iconst (v := 1) d_Plan_addCopy_22 (by decide) ?_
  refine zR_iadd d_Plan_addCopy_23 ?_
  refine zR_put (j := 9) (ty := .int) d_Plan_addCopy_24 sh_31 cl_Plan rfl (by decide) rfl (by decide +kernel) g_107 (zint _) ?_
  refine zR_iload_n d_Plan_addCopy_27 rfl rfl ?_
  refine zR_iconst (v := 3) d_Plan_addCopy_28 (by decide) ?_
  refine zR_icmp_ne (tgt := 57) d_Plan_addCopy_29 (by decide) (fun h1 => ?_) (fun h1 => ?_)
  · replace h := h.1 h1
    exact h
  · replace h := h.2 h1
    refine zR_aload_n d_Plan_addCopy_32 rfl rfl ?_
    refine zR_getR (j := 1) d_Plan_addCopy_33 sh_31 cl_Plan rfl (by decide) g_104 ?_
    refine zR_iload d_Plan_addCopy_36 rfl ?_
    refine zR_callV (Y' := Y_Ring_isLatest) (n := 1) (A := [.inl (mem 32 1)]) (b := 33) (S := []) v_Ring_isLatest g_126 sh_33 cl_Ring rfl d_Plan_addCopy_38 rfl (Nat.le_of_ble_eq_true rfl) rfl (zR_cons ?_ h)
    rintro r_ m1 ⟨y2, rfl, h⟩
    show zR κ (d + 1) Y_Plan_addCopy 41 [some (.inr 31), some (.inl x1), some (.inl x2), some (.inl (mem 32 0)), some (.inl (mem 32 1)), none] [.inl y2] m1 Q
    refine zR_if_eq (tgt := 57) d_Plan_addCopy_41 (by decide) (fun h1 => ?_) (fun h1 => ?_)
    · replace h := h.1 h1
      exact h
    · replace h := h.2 h1
      refine zR_aload_n d_Plan_addCopy_44 rfl rfl ?_
      refine zR_iload_n d_Plan_addCopy_45 rfl rfl ?_
      refine zR_iload_n d_Plan_addCopy_46 rfl rfl ?_
      refine zR_bipush (v := 7) d_Plan_addCopy_47 (by decide) ?_
      refine zR_iload_n d_Plan_addCopy_49 rfl rfl ?_
      refine zR_iconst (v := (-1)) d_Plan_addCopy_50 (by decide) ?_
      refine zR_iload d_Plan_addCopy_51 rfl ?_
      refine zR_callV (Y' := Y_Plan_addCommand) (n := 6) (A := [.inl x1, .inl x2, .inl 7, .inl (mem 32 0), .inl (-1), .inl (mem 32 1)]) (b := 31) (S := []) v_Plan_addCommand g_120 sh_31 cl_Plan rfl d_Plan_addCopy_53 rfl (Nat.le_of_ble_eq_true rfl) rfl (zR_cons ?_ h)
      rintro r_ m3 ⟨rfl, h⟩
      show zR κ (d + 1) Y_Plan_addCopy 56 [some (.inr 31), some (.inl x1), some (.inl x2), some (.inl (mem 32 0)), some (.inl (mem 32 1)), none] [] m3 Q
      exact zR_return rfl d_Plan_addCopy_56 h
theorem w_Plan_addCopy_57 {κ : zK} {d : Nat} {mem : zM} {Q : Option zV → zM → Prop} {x1 x2 x3 x4 : Int32}
    (h : zR κ d Y_Ring_symbolOf 0 [some (.inr 33), some (.inl x4), none] [] mem (fun r m1 => ∃ y2 : Int32, r = some (.inl y2) ∧ zR κ d Y_Plan_copySymbolOf 0 [some (.inl x3), none] [] m1 (fun r m3 => ∃ y4 : Int32, r = some (.inl y4) ∧ zR κ d Y_Plan_addCommand 0 [some (.inr 31), some (.inl x1), some (.inl x2), some (.inl y4), some (.inl x3), some (.inl y2), some (.inl x4)] [] m3 (fun r m5 => r = none ∧ ((y2 = 0 → Q none m5) ∧ (¬ y2 = 0 → zR κ d Y_Ring_remember 0 [some (.inr 33), some (.inl x4), none] [] m5 (fun r m6 => r = none ∧ Q none m6))))))) : zR κ (d + 1) Y_Plan_addCopy 57 [some (.inr 31), some (.inl x1), some (.inl x2), some (.inl x3), some (.inl x4), none] [] mem Q := by
  refine zR_aload_n d_Plan_addCopy_57 rfl rfl ?_
  refine zR_getR (j := 1) d_Plan_addCopy_58 sh_31 cl_Plan rfl (by decide) g_104 ?_
  refine zR_iload d_Plan_addCopy_61 rfl ?_
  refine zR_callV (Y' := Y_Ring_symbolOf) (n := 1) (A := [.inl x4]) (b := 33) (S := []) v_Ring_symbolOf g_127 sh_33 cl_Ring rfl d_Plan_addCopy_63 rfl (Nat.le_of_ble_eq_true rfl) rfl (zR_cons ?_ h)
  rintro r_ m1 ⟨y2, rfl, h⟩
  show zR κ (d + 1) Y_Plan_addCopy 66 [some (.inr 31), some (.inl x1), some (.inl x2), some (.inl x3), some (.inl x4), none] [.inl y2] m1 Q
  refine zR_istore d_Plan_addCopy_66 (by decide) ?_
  refine zR_aload_n d_Plan_addCopy_68 rfl rfl ?_
  refine zR_iload_n d_Plan_addCopy_69 rfl rfl ?_
  refine zR_iload_n d_Plan_addCopy_70 rfl rfl ?_
  refine zR_iload_n d_Plan_addCopy_71 rfl rfl ?_
  refine zR_callS (Y' := Y_Plan_copySymbolOf) (n := 1) (A := [.inl x3]) (S := [.inl x2, .inl x1, .inr 31]) v_Plan_copySymbolOf g_123 d_Plan_addCopy_72 rfl (Nat.le_of_ble_eq_true rfl) rfl (zR_cons ?_ h)
  rintro r_ m3 ⟨y4, rfl, h⟩
  show zR κ (d + 1) Y_Plan_addCopy 75 [some (.inr 31), some (.inl x1), some (.inl x2), some (.inl x3), some (.inl x4), some (.inl y2)] [.inl y4, .inl x2, .inl x1, .inr 31] m3 Q
  refine zR_iload_n d_Plan_addCopy_75 rfl rfl ?_
  refine zR_iload d_Plan_addCopy_76 rfl ?_
  refine zR_iload d_Plan_addCopy_78 rfl ?_
  refine zR_callV (Y' := Y_Plan_addCommand) (n := 6) (A := [.inl x1, .inl x2, .inl y4, .inl x3, .inl y2, .inl x4]) (b := 31) (S := []) v_Plan_addCommand g_120 sh_31 cl_Plan rfl d_Plan_addCopy_80 rfl (Nat.le_of_ble_eq_true rfl) rfl (zR_cons ?_ h)
  rintro r_ m5 ⟨rfl, h⟩
  show zR κ (d + 1) Y_Plan_addCopy 83 [some (.inr 31), some (.inl x1), some (.inl x2), some (.inl x3), some (.inl x4), some (.inl y2)] [] m5 Q
  refine zR_iload d_Plan_addCopy_83 rfl ?_
  refine zR_if_eq (tgt := 97) d_Plan_addCopy_85 (by decide) (fun h1 => ?_) (fun h1 => ?_)
  · replace h := h.1 h1
    exact zR_return rfl d_Plan_addCopy_97 h
  · replace h := h.2 h1
    refine zR_aload_n d_Plan_addCopy_88 rfl rfl ?_
    refine zR_getR (j := 1) d_Plan_addCopy_89 sh_31 cl_Plan rfl (by decide) g_104 ?_
    refine zR_iload d_Plan_addCopy_92 rfl ?_
    refine zR_callV (Y' := Y_Ring_remember) (n := 1) (A := [.inl x4]) (b := 33) (S := []) v_Ring_remember g_128 sh_33 cl_Ring rfl d_Plan_addCopy_94 rfl (Nat.le_of_ble_eq_true rfl) rfl (zR_cons ?_ h)
    rintro r_ m6 ⟨rfl, h⟩
    show zR κ (d + 1) Y_Plan_addCopy 97 [some (.inr 31), some (.inl x1), some (.inl x2), some (.inl x3), some (.inl x4), some (.inl y2)] [] m6 Q
    exact zR_return rfl d_Plan_addCopy_97 h
theorem w_Plan_copySymbolOf_0 {κ : zK} {d : Nat} {mem : zM} {Q : Option zV → zM → Prop} {x0 : Int32}
    (h : zR κ d Y_Plan_copySymbolOf 2 [some (.inl x0), some (.inl 0)] [] mem Q) : zR κ d Y_Plan_copySymbolOf 0 [some (.inl x0), none] [] mem Q := by
  refine zR_iconst (v := 0) d_Plan_copySymbolOf_0 (by decide) ?_
  refine zR_istore_n d_Plan_copySymbolOf_1 rfl (by decide) ?_
  exact h
theorem w_Plan_copySymbolOf_2 {κ : zK} {d : Nat} {mem : zM} {Q : Option zV → zM → Prop} {x0 x1 : Int32}
    (h : ((6 ≤ x1 → Q (some (.inl x1)) mem) ∧ (¬ 6 ≤ x1 → vp_in (x1 + 1) 8 ∧ ((x0 < (tv_2.getD (x1 + 1).toNatClampNeg 0) → Q (some (.inl x1)) mem) ∧ (¬ x0 < (tv_2.getD (x1 + 1).toNatClampNeg 0) → zR κ d Y_Plan_copySymbolOf 2 [some (.inl x0), some (.inl (x1 + 1))] [] mem Q))))) : zR κ d Y_Plan_copySymbolOf 2 [some (.inl x0), some (.inl x1)] [] mem Q := by
  refine zR_iload_n d_Plan_copySymbolOf_2 rfl rfl ?_
  refine zR_bipush (v := 6) d_Plan_copySymbolOf_3 (by decide) ?_
  refine zR_icmp_ge (tgt := 25) d_Plan_copySymbolOf_5 (by decide) (fun h1 => ?_) (fun h1 => ?_)
  · replace h := h.1 h1
    refine zR_iload_n d_Plan_copySymbolOf_25 rfl rfl ?_
    exact zR_ireturn rfl d_Plan_copySymbolOf_26 h
  · replace h := h.2 h1
    refine zR_getT (t := 2) d_Plan_copySymbolOf_8 tb_2 n_119 ?_
    refine zR_iload_n d_Plan_copySymbolOf_11 rfl rfl ?_
    refine zR_iconst (v := 1) d_Plan_copySymbolOf_12 (by decide) ?_
    refine zR_iadd d_Plan_copySymbolOf_13 ?_
    refine zR_tload (t := 2) d_Plan_copySymbolOf_14 tb_2 h.1 rfl ?_
    replace h := h.2
    refine zR_iload_n d_Plan_copySymbolOf_15 rfl rfl ?_
    refine zR_icmp_gt (tgt := 25) d_Plan_copySymbolOf_16 (by decide) (fun h1 => ?_) (fun h1 => ?_)
    · replace h := h.1 h1
      refine zR_iload_n d_Plan_copySymbolOf_25 rfl rfl ?_
      exact zR_ireturn rfl d_Plan_copySymbolOf_26 h
    · replace h := h.2 h1
      refine zR_iinc (v := 1) d_Plan_copySymbolOf_19 rfl (by decide) (by decide) ?_
      refine zR_goto (tgt := 2) d_Plan_copySymbolOf_22 (by decide) ?_
      exact h
theorem w_Plan_addCommand_0 {κ : zK} {d : Nat} {mem : zM} {Q : Option zV → zM → Prop} {x1 x2 x3 x4 x5 x6 : Int32}
    (h : (((mem 31 8) < 48 → vp_in (mem 31 8) 48 ∧ vp_in (mem 31 8) 48 ∧ vp_in (mem 31 8) 48 ∧ vp_in (mem 31 8) 48 ∧ vp_in (mem 31 8) 48 ∧ vp_in (mem 31 8) 48 ∧ ((¬ x5 = (-1) → Q none (zms (zms (zms (zms (zms (zms (zms (zms mem 35 (mem 31 8).toNatClampNeg x1) 36 (mem 31 8).toNatClampNeg (x2 - x1)) 37 (mem 31 8).toNatClampNeg x3) 38 (mem 31 8).toNatClampNeg x4) 39 (mem 31 8).toNatClampNeg x5) 40 (mem 31 8).toNatClampNeg x6) 31 8 ((mem 31 8) + 1)) 31 11 ((mem 31 11) + (((1 + x2) - x1) + 1)))) ∧ (x5 = (-1) → Q none (zms (zms (zms (zms (zms (zms (zms (zms mem 35 (mem 31 8).toNatClampNeg x1) 36 (mem 31 8).toNatClampNeg (x2 - x1)) 37 (mem 31 8).toNatClampNeg x3) 38 (mem 31 8).toNatClampNeg x4) 39 (mem 31 8).toNatClampNeg x5) 40 (mem 31 8).toNatClampNeg x6) 31 8 ((mem 31 8) + 1)) 31 11 ((mem 31 11) + (((1 + x2) - x1) + 0)))))) ∧ (¬ (mem 31 8) < 48 → Q none mem))) : zR κ d Y_Plan_addCommand 0 [some (.inr 31), some (.inl x1), some (.inl x2), some (.inl x3), some (.inl x4), some (.inl x5), some (.inl x6)] [] mem Q := by
  refine zR_aload_n d_Plan_addCommand_0 rfl rfl ?_
  refine zR_getI (j := 8) d_Plan_addCommand_1 sh_31 cl_Plan rfl (by decide) g_106 ?_
  refine zR_bipush (v := 48) d_Plan_addCommand_4 (by decide) ?_
  refine zR_icmp_lt (tgt := 10) d_Plan_addCommand_6 (by decide) (fun h1 => ?_) (fun h1 => ?_)
  · replace h := h.1 h1
    refine zR_aload_n d_Plan_addCommand_10 rfl rfl ?_
    refine zR_getR (j := 2) d_Plan_addCommand_11 sh_31 cl_Plan rfl (by decide) g_129 ?_
    refine zR_aload_n d_Plan_addCommand_14 rfl rfl ?_
    refine zR_getI (j := 8) d_Plan_addCommand_15 sh_31 cl_Plan rfl (by decide) g_106 ?_
    refine zR_iload_n d_Plan_addCommand_18 rfl rfl ?_
    refine zR_iastore d_Plan_addCommand_19 sh_35 h.1 rfl ?_
    replace h := h.2
    refine zR_aload_n d_Plan_addCommand_20 rfl rfl ?_
    refine zR_getR (j := 3) d_Plan_addCommand_21 sh_31 cl_Plan rfl (by decide) g_130 ?_
    refine zR_aload_n d_Plan_addCommand_24 rfl rfl ?_
    refine zR_getI (j := 8) d_Plan_addCommand_25 sh_31 cl_Plan rfl (by decide) g_106 ?_
    refine zR_iload_n d_Plan_addCommand_28 rfl rfl ?_
    refine zR_iload_n d_Plan_addCommand_29 rfl rfl ?_
    refine zR_isub d_Plan_addCommand_30 ?_
    refine zR_iastore d_Plan_addCommand_31 sh_36 h.1 rfl ?_
    replace h := h.2
    refine zR_aload_n d_Plan_addCommand_32 rfl rfl ?_
    refine zR_getR (j := 4) d_Plan_addCommand_33 sh_31 cl_Plan rfl (by decide) g_131 ?_
    refine zR_aload_n d_Plan_addCommand_36 rfl rfl ?_
    refine zR_getI (j := 8) d_Plan_addCommand_37 sh_31 cl_Plan rfl (by decide) g_106 ?_
    refine zR_iload_n d_Plan_addCommand_40 rfl rfl ?_
    refine zR_iastore d_Plan_addCommand_41 sh_37 h.1 rfl ?_
    replace h := h.2
    refine zR_aload_n d_Plan_addCommand_42 rfl rfl ?_
    refine zR_getR (j := 5) d_Plan_addCommand_43 sh_31 cl_Plan rfl (by decide) g_132 ?_
    refine zR_aload_n d_Plan_addCommand_46 rfl rfl ?_
    refine zR_getI (j := 8) d_Plan_addCommand_47 sh_31 cl_Plan rfl (by decide) g_106 ?_
    refine zR_iload d_Plan_addCommand_50 rfl ?_
    refine zR_iastore d_Plan_addCommand_52 sh_38 h.1 rfl ?_
    replace h := h.2
    refine zR_aload_n d_Plan_addCommand_53 rfl rfl ?_
    refine zR_getR (j := 6) d_Plan_addCommand_54 sh_31 cl_Plan rfl (by decide) g_133 ?_
    refine zR_aload_n d_Plan_addCommand_57 rfl rfl ?_
    refine zR_getI (j := 8) d_Plan_addCommand_58 sh_31 cl_Plan rfl (by decide) g_106 ?_
    refine zR_iload d_Plan_addCommand_61 rfl ?_
    refine zR_iastore d_Plan_addCommand_63 sh_39 h.1 rfl ?_
    replace h := h.2
    refine zR_aload_n d_Plan_addCommand_64 rfl rfl ?_
    refine zR_getR (j := 7) d_Plan_addCommand_65 sh_31 cl_Plan rfl (by decide) g_134 ?_
    refine zR_aload_n d_Plan_addCommand_68 rfl rfl ?_
    refine zR_getI (j := 8) d_Plan_addCommand_69 sh_31 cl_Plan rfl (by decide) g_106 ?_
    refine zR_iload d_Plan_addCommand_72 rfl ?_
    refine zR_iastore d_Plan_addCommand_74 sh_40 h.1 rfl ?_
    replace h := h.2
    refine zR_aload_n d_Plan_addCommand_75 rfl rfl ?_
    refine zR_dup d_Plan_addCommand_76 ?_
    refine zR_getI (j := 8) d_Plan_addCommand_77 sh_31 cl_Plan rfl (by decide) g_106 ?_
    refine zR_iconst (v := 1) d_Plan_addCommand_80 (by decide) ?_
    refine zR_iadd d_Plan_addCommand_81 ?_
    refine zR_put (j := 8) (ty := .int) d_Plan_addCommand_82 sh_31 cl_Plan rfl (by decide) rfl (by decide +kernel) g_106 (zint _) ?_
    refine zR_aload_n d_Plan_addCommand_85 rfl rfl ?_
    refine zR_dup d_Plan_addCommand_86 ?_
    refine zR_getI (j := 11) d_Plan_addCommand_87 sh_31 cl_Plan rfl (by decide) g_109 ?_
    refine zR_iconst (v := 1) d_Plan_addCommand_90 (by decide) ?_
    refine zR_iload_n d_Plan_addCommand_91 rfl rfl ?_
    refine zR_iadd d_Plan_addCommand_92 ?_
    refine zR_iload_n d_Plan_addCommand_93 rfl rfl ?_
    refine zR_isub d_Plan_addCommand_94 ?_
    refine zR_iload d_Plan_addCommand_95 rfl ?_
    refine zR_iconst (v := (-1)) d_Plan_addCommand_97 (by decide) ?_
    refine zR_icmp_ne (tgt := 105) d_Plan_addCommand_98 (by decide) (fun h1 => ?_) (fun h1 => ?_)
    · replace h := h.1 h1
      refine zR_iconst (v := 1) d_Plan_addCommand_105 (by decide) ?_
      refine zR_iadd d_Plan_addCommand_106 ?_
      refine zR_iadd d_Plan_addCommand_107 ?_
      refine zR_put (j := 11) (ty := .int) d_Plan_addCommand_108 sh_31 cl_Plan rfl (by decide) rfl (by decide +kernel) g_109 (zint _) ?_
      exact zR_return rfl d_Plan_addCommand_111 h
    · replace h := h.2 h1
      refine zR_iconst (v := 0) d_Plan_addCommand_101 (by decide) ?_
      refine zR_goto (tgt := 106) d_Plan_addCommand_102 (by decide) ?_
      refine zR_iadd d_Plan_addCommand_106 ?_
      refine zR_iadd d_Plan_addCommand_107 ?_
      refine zR_put (j := 11) (ty := .int) d_Plan_addCommand_108 sh_31 cl_Plan rfl (by decide) rfl (by decide +kernel) g_109 (zint _) ?_
      exact zR_return rfl d_Plan_addCommand_111 h
  · replace h := h.2 h1
    exact zR_return rfl d_Plan_addCommand_9 h
theorem w_Plan_insertSymbolOf_0 {κ : zK} {d : Nat} {mem : zM} {Q : Option zV → zM → Prop} {x1 : Int32}
    (h : zR κ d Y_Plan_insertSymbolOf 2 [some (.inr 31), some (.inl x1), some (.inl 0)] [] mem Q) : zR κ d Y_Plan_insertSymbolOf 0 [some (.inr 31), some (.inl x1), none] [] mem Q := by
  refine zR_iconst (v := 0) d_Plan_insertSymbolOf_0 (by decide) ?_
  refine zR_istore_n d_Plan_insertSymbolOf_1 rfl (by decide) ?_
  exact h
theorem w_Plan_insertSymbolOf_2 {κ : zK} {d : Nat} {mem : zM} {Q : Option zV → zM → Prop} {x1 x2 : Int32}
    (h : ((4 ≤ (x2 + 1) → Q (some (.inl x2)) mem) ∧ (¬ 4 ≤ (x2 + 1) → vp_in (x2 + 1) 4 ∧ vp_in x1 48 ∧ (((mem 36 x1.toNatClampNeg) < (tv_0.getD (x2 + 1).toNatClampNeg 0) → Q (some (.inl x2)) mem) ∧ (¬ (mem 36 x1.toNatClampNeg) < (tv_0.getD (x2 + 1).toNatClampNeg 0) → zR κ d Y_Plan_insertSymbolOf 2 [some (.inr 31), some (.inl x1), some (.inl (x2 + 1))] [] mem Q))))) : zR κ d Y_Plan_insertSymbolOf 2 [some (.inr 31), some (.inl x1), some (.inl x2)] [] mem Q := by
  refine zR_iload_n d_Plan_insertSymbolOf_2 rfl rfl ?_
  refine zR_iconst (v := 1) d_Plan_insertSymbolOf_3 (by decide) ?_
  refine zR_iadd d_Plan_insertSymbolOf_4 ?_
  refine zR_getT (t := 0) d_Plan_insertSymbolOf_5 tb_0 n_135 ?_
  refine zR_tlen (t := 0) (v := 4) d_Plan_insertSymbolOf_8 tb_0 (by decide) ?_
  refine zR_icmp_ge (tgt := 34) d_Plan_insertSymbolOf_9 (by decide) (fun h1 => ?_) (fun h1 => ?_)
  · replace h := h.1 h1
    refine zR_iload_n d_Plan_insertSymbolOf_34 rfl rfl ?_
    exact zR_ireturn rfl d_Plan_insertSymbolOf_35 h
  · replace h := h.2 h1
    refine zR_getT (t := 0) d_Plan_insertSymbolOf_12 tb_0 n_135 ?_
    refine zR_iload_n d_Plan_insertSymbolOf_15 rfl rfl ?_
    refine zR_iconst (v := 1) d_Plan_insertSymbolOf_16 (by decide) ?_
    refine zR_iadd d_Plan_insertSymbolOf_17 ?_
    refine zR_tload (t := 0) d_Plan_insertSymbolOf_18 tb_0 h.1 rfl ?_
    replace h := h.2
    refine zR_aload_n d_Plan_insertSymbolOf_19 rfl rfl ?_
    refine zR_getR (j := 3) d_Plan_insertSymbolOf_20 sh_31 cl_Plan rfl (by decide) g_130 ?_
    refine zR_iload_n d_Plan_insertSymbolOf_23 rfl rfl ?_
    refine zR_iaload d_Plan_insertSymbolOf_24 sh_36 h.1 rfl ?_
    replace h := h.2
    refine zR_icmp_gt (tgt := 34) d_Plan_insertSymbolOf_25 (by decide) (fun h1 => ?_) (fun h1 => ?_)
    · replace h := h.1 h1
      refine zR_iload_n d_Plan_insertSymbolOf_34 rfl rfl ?_
      exact zR_ireturn rfl d_Plan_insertSymbolOf_35 h
    · replace h := h.2 h1
      refine zR_iinc (v := 1) d_Plan_insertSymbolOf_28 rfl (by decide) (by decide) ?_
      refine zR_goto (tgt := 2) d_Plan_insertSymbolOf_31 (by decide) ?_
      exact h
theorem w_Plan_commandSymbolOf_0 {κ : zK} {d : Nat} {mem : zM} {Q : Option zV → zM → Prop} {x1 : Int32}
    (h : zR κ d Y_Plan_insertSymbolOf 0 [some (.inr 31), some (.inl x1), none] [] mem (fun r m1 => ∃ y2 : Int32, r = some (.inl y2) ∧ vp_in x1 48 ∧ Q (some (.inl ((8 * y2) + (m1 37 x1.toNatClampNeg)))) m1)) : zR κ (d + 1) Y_Plan_commandSymbolOf 0 [some (.inr 31), some (.inl x1)] [] mem Q := by
  refine zR_bipush (v := 8) d_Plan_commandSymbolOf_0 (by decide) ?_
  refine zR_aload_n d_Plan_commandSymbolOf_2 rfl rfl ?_
  refine zR_iload_n d_Plan_commandSymbolOf_3 rfl rfl ?_
  refine zR_callV (Y' := Y_Plan_insertSymbolOf) (n := 1) (A := [.inl x1]) (b := 31) (S := [.inl 8]) v_Plan_insertSymbolOf g_136 sh_31 cl_Plan rfl d_Plan_commandSymbolOf_4 rfl (Nat.le_of_ble_eq_true rfl) rfl (zR_cons ?_ h)
  rintro r_ m1 ⟨y2, rfl, h⟩
  show zR κ (d + 1) Y_Plan_commandSymbolOf 7 [some (.inr 31), some (.inl x1)] [.inl y2, .inl 8] m1 Q
  refine zR_imul d_Plan_commandSymbolOf_7 ?_
  refine zR_aload_n d_Plan_commandSymbolOf_8 rfl rfl ?_
  refine zR_getR (j := 4) d_Plan_commandSymbolOf_9 sh_31 cl_Plan rfl (by decide) g_131 ?_
  refine zR_iload_n d_Plan_commandSymbolOf_12 rfl rfl ?_
  refine zR_iaload d_Plan_commandSymbolOf_13 sh_37 h.1 rfl ?_
  replace h := h.2
  refine zR_iadd d_Plan_commandSymbolOf_14 ?_
  exact zR_ireturn rfl d_Plan_commandSymbolOf_15 h
