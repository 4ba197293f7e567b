/-! pieces of RingPacker$Finder -/
theorem w_Finder_findCopy_0 {κ : zK} {d : Nat} {mem : zM} {Q : Option zV → zM → Prop} {c : Nat} {x2 x3 : Int32} (hc : is_Text c)
    (h : zR κ (d + 1) Y_Finder_findCopy 23 [some (.inr 32), some (.inr c), some (.inl x2), some (.inl x3), some (.inl (if (x3 - x2) < 57 then (x3 - x2) else 57)), some (.inl 1), none] [] (zms (zms mem 32 0 0) 32 1 0) Q) : zR κ (d + 1) Y_Finder_findCopy 0 [some (.inr 32), some (.inr c), some (.inl x2), some (.inl x3), none, none, none] [] mem Q := by
  refine zR_bipush (v := 57) d_Finder_findCopy_0 (by decide) ?_
  refine zR_iload_n d_Finder_findCopy_2 rfl rfl ?_
  refine zR_iload_n d_Finder_findCopy_3 rfl rfl ?_
  refine zR_isub d_Finder_findCopy_4 ?_
  refine zR_min d_Finder_findCopy_5 g_49 (Nat.le_of_ble_eq_true rfl) ?_
  refine zR_istore d_Finder_findCopy_8 (by decide) ?_
  refine zR_aload_n d_Finder_findCopy_10 rfl rfl ?_
  refine zR_iconst (v := 0) d_Finder_findCopy_11 (by decide) ?_
  refine zR_put (j := 0) (ty := .int) d_Finder_findCopy_12 sh_32 cl_Finder rfl (by decide) rfl (by decide +kernel) g_50 (zint _) ?_
  refine zR_aload_n d_Finder_findCopy_15 rfl rfl ?_
  refine zR_iconst (v := 0) d_Finder_findCopy_16 (by decide) ?_
  refine zR_put (j := 1) (ty := .int) d_Finder_findCopy_17 sh_32 cl_Finder rfl (by decide) rfl (by decide +kernel) g_51 (zint _) ?_
  refine zR_iconst (v := 1) d_Finder_findCopy_20 (by decide) ?_
  refine zR_istore d_Finder_findCopy_21 (by decide) ?_
  exact h
theorem w_Finder_findCopy_23 {κ : zK} {d : Nat} {mem : zM} {Q : Option zV → zM → Prop} {c : Nat} {x2 x3 x4 x5 : Int32} (hc : is_Text c)
    (h : ((x2 < x5 → Q none mem) ∧ (¬ x2 < x5 → ((x4 ≤ (mem 32 0) → Q none mem) ∧ (¬ x4 ≤ (mem 32 0) → zR κ d Y_Text_equalBytes 0 [some (.inr c), some (.inl (x2 - x5)), some (.inl x2), some (.inl x4), none, none] [] mem (fun r m1 => ∃ y2 : Int32, r = some (.inl y2) ∧ ((y2 ≤ (m1 32 0) → zR κ (d + 1) Y_Finder_findCopy 23 [some (.inr 32), some (.inr c), some (.inl x2), some (.inl x3), some (.inl x4), some (.inl (x5 + 1)), none] [] m1 Q) ∧ (¬ y2 ≤ (m1 32 0) → zR κ (d + 1) Y_Finder_findCopy 23 [some (.inr 32), some (.inr c), some (.inl x2), some (.inl x3), some (.inl x4), some (.inl (x5 + 1)), none] [] (zms (zms m1 32 0 y2) 32 1 x5) Q)))))))) : zR κ (d + 1) Y_Finder_findCopy 23 [some (.inr 32), some (.inr c), some (.inl x2), some (.inl x3), some (.inl x4), some (.inl x5), none] [] mem Q := by
  refine zR_iload d_Finder_findCopy_23 rfl ?_
  refine zR_iload_n d_Finder_findCopy_25 rfl rfl ?_
  refine zR_icmp_gt (tgt := 78) d_Finder_findCopy_26 (by decide) (fun h1 => ?_) (fun h1 => ?_)
  · replace h := h.1 h1
    exact zR_return rfl d_Finder_findCopy_78 h
  · replace h := h.2 h1
    refine zR_aload_n d_Finder_findCopy_29 rfl rfl ?_
    refine zR_getI (j := 0) d_Finder_findCopy_30 sh_32 cl_Finder rfl (by decide) g_50 ?_
    refine zR_iload d_Finder_findCopy_33 rfl ?_
    refine zR_icmp_ge (tgt := 78) d_Finder_findCopy_35 (by decide) (fun h1 => ?_) (fun h1 => ?_)
    · replace h := h.1 h1
      exact zR_return rfl d_Finder_findCopy_78 h
    · replace h := h.2 h1
      refine zR_aload_n d_Finder_findCopy_38 rfl rfl ?_
      refine zR_iload_n d_Finder_findCopy_39 rfl rfl ?_
      refine zR_iload d_Finder_findCopy_40 rfl ?_
      refine zR_isub d_Finder_findCopy_42 ?_
      refine zR_iload_n d_Finder_findCopy_43 rfl rfl ?_
      refine zR_iload d_Finder_findCopy_44 rfl ?_
      refine zR_callV (Y' := Y_Text_equalBytes) (n := 3) (A := [.inl (x2 - x5), .inl x2, .inl x4]) (b := c) (S := []) v_Text_equalBytes g_52 hc.1 cl_Text rfl d_Finder_findCopy_46 rfl (Nat.le_of_ble_eq_true rfl) rfl (zR_cons ?_ h)
      rintro r_ m1 ⟨y2, rfl, h⟩
      show zR κ (d + 1) Y_Finder_findCopy 49 [some (.inr 32), some (.inr c), some (.inl x2), some (.inl x3), some (.inl x4), some (.inl x5), none] [.inl y2] m1 Q
      refine zR_istore d_Finder_findCopy_49 (by decide) ?_
      refine zR_iload d_Finder_findCopy_51 rfl ?_
      refine zR_aload_n d_Finder_findCopy_53 rfl rfl ?_
      refine zR_getI (j := 0) d_Finder_findCopy_54 sh_32 cl_Finder rfl (by decide) g_50 ?_
      refine zR_icmp_le (tgt := 72) d_Finder_findCopy_57 (by decide) (fun h1 => ?_) (fun h1 => ?_)
      · replace h := h.1 h1
        refine zR_iinc (v := 1) d_Finder_findCopy_72 rfl (by decide) (by decide) ?_
        refine zR_goto (tgt := 23) d_Finder_findCopy_75 (by decide) ?_
        refine zR_drop 6 ?_
        exact h
      · replace h := h.2 h1
        refine zR_aload_n d_Finder_findCopy_60 rfl rfl ?_
        refine zR_iload d_Finder_findCopy_61 rfl ?_
        refine zR_put (j := 0) (ty := .int) d_Finder_findCopy_63 sh_32 cl_Finder rfl (by decide) rfl (by decide +kernel) g_50 (zint _) ?_
        refine zR_aload_n d_Finder_findCopy_66 rfl rfl ?_
        refine zR_iload d_Finder_findCopy_67 rfl ?_
        refine zR_put (j := 1) (ty := .int) d_Finder_findCopy_69 sh_32 cl_Finder rfl (by decide) rfl (by decide +kernel) g_51 (zint _) ?_
        refine zR_iinc (v := 1) d_Finder_findCopy_72 rfl (by decide) (by decide) ?_
        refine zR_goto (tgt := 23) d_Finder_findCopy_75 (by decide) ?_
        refine zR_drop 6 ?_
        exact h
theorem w_Finder_findWord_0 {κ : zK} {d : Nat} {mem : zM} {Q : Option zV → zM → Prop} {c : Nat} {x2 x3 : Int32} (hc : is_Text c)
    (h : zR κ (d + 1) Y_Finder_findWord 18 [some (.inr 32), some (.inr c), some (.inl x2), some (.inl x3), some (.inl 4), none, none] [] (zms (zms (zms mem 32 2 0) 32 3 0) 32 4 0) Q) : zR κ (d + 1) Y_Finder_findWord 0 [some (.inr 32), some (.inr c), some (.inl x2), some (.inl x3), none, none, none] [] mem Q := by
  refine zR_aload_n d_Finder_findWord_0 rfl rfl ?_
  refine zR_iconst (v := 0) d_Finder_findWord_1 (by decide) ?_
  refine zR_put (j := 2) (ty := .int) d_Finder_findWord_2 sh_32 cl_Finder rfl (by decide) rfl (by decide +kernel) g_53 (zint _) ?_
  refine zR_aload_n d_Finder_findWord_5 rfl rfl ?_
  refine zR_iconst (v := 0) d_Finder_findWord_6 (by decide) ?_
  refine zR_put (j := 3) (ty := .int) d_Finder_findWord_7 sh_32 cl_Finder rfl (by decide) rfl (by decide +kernel) g_54 (zint _) ?_
  refine zR_aload_n d_Finder_findWord_10 rfl rfl ?_
  refine zR_iconst (v := 0) d_Finder_findWord_11 (by decide) ?_
  refine zR_put (j := 4) (ty := .int) d_Finder_findWord_12 sh_32 cl_Finder rfl (by decide) rfl (by decide +kernel) g_55 (zint _) ?_
  refine zR_iconst (v := 4) d_Finder_findWord_15 (by decide) ?_
  refine zR_istore d_Finder_findWord_16 (by decide) ?_
  exact h
theorem w_Finder_findWord_18 {κ : zK} {d : Nat} {mem : zM} {Q : Option zV → zM → Prop} {c : Nat} {x2 x3 x4 : Int32} (hc : is_Text c)
    (h : ((5 < x4 → Q none mem) ∧ (¬ 5 < x4 → zR κ (d + 1) Y_Finder_findWord 27 [some (.inr 32), some (.inr c), some (.inl x2), some (.inl x3), some (.inl x4), some (.inl 0), none] [] mem Q))) : zR κ (d + 1) Y_Finder_findWord 18 [some (.inr 32), some (.inr c), some (.inl x2), some (.inl x3), some (.inl x4), none, none] [] mem Q := by
  refine zR_iload d_Finder_findWord_18 rfl ?_
  refine zR_iconst (v := 5) d_Finder_findWord_20 (by decide) ?_
  refine zR_icmp_gt (tgt := 102) d_Finder_findWord_21 (by decide) (fun h1 => ?_) (fun h1 => ?_)
  · replace h := h.1 h1
    exact zR_return rfl d_Finder_findWord_102 h
  · replace h := h.2 h1
    refine zR_iconst (v := 0) d_Finder_findWord_24 (by decide) ?_
    refine zR_istore d_Finder_findWord_25 (by decide) ?_
    exact h
theorem w_Finder_findWord_27 {κ : zK} {d : Nat} {mem : zM} {Q : Option zV → zM → Prop} {c : Nat} {x2 x3 x4 x5 : Int32} (hc : is_Text c)
    (h : ((16 ≤ x5 → zR κ (d + 1) Y_Finder_findWord 18 [some (.inr 32), some (.inr c), some (.inl x2), some (.inl x3), some (.inl (x4 + 1)), none, none] [] mem Q) ∧ (¬ 16 ≤ x5 → zR κ d Y_Words_yieldOf 0 [some (.inl x4), some (.inl x5), none] [] mem (fun r m1 => ∃ y2 : Int32, r = some (.inl y2) ∧ ((y2 ≤ (m1 32 2) → zR κ (d + 1) Y_Finder_findWord 27 [some (.inr 32), some (.inr c), some (.inl x2), some (.inl x3), some (.inl x4), some (.inl (x5 + 1)), none] [] m1 Q) ∧ (¬ y2 ≤ (m1 32 2) → (((x3 - x2) < y2 → zR κ (d + 1) Y_Finder_findWord 27 [some (.inr 32), some (.inr c), some (.inl x2), some (.inl x3), some (.inl x4), some (.inl (x5 + 1)), none] [] m1 Q) ∧ (¬ (x3 - x2) < y2 → zR κ d Y_Words_standsIn 0 [some (.inr c), some (.inl x2), some (.inl x4), some (.inl x5), none, none] [] m1 (fun r m3 => ∃ y4 : Int32, r = some (.inl y4) ∧ ((y4 = 0 → zR κ (d + 1) Y_Finder_findWord 27 [some (.inr 32), some (.inr c), some (.inl x2), some (.inl x3), some (.inl x4), some (.inl (x5 + 1)), none] [] m3 Q) ∧ (¬ y4 = 0 → zR κ (d + 1) Y_Finder_findWord 27 [some (.inr 32), some (.inr c), some (.inl x2), some (.inl x3), some (.inl x4), some (.inl (x5 + 1)), none] [] (zms (zms (zms m3 32 2 y2) 32 3 x4) 32 4 x5) Q))))))))))) : zR κ (d + 1) Y_Finder_findWord 27 [some (.inr 32), some (.inr c), some (.inl x2), some (.inl x3), some (.inl x4), some (.inl x5), none] [] mem Q := by
  refine zR_iload d_Finder_findWord_27 rfl ?_
  refine zR_bipush (v := 16) d_Finder_findWord_29 (by decide) ?_
  refine zR_icmp_ge (tgt := 96) d_Finder_findWord_31 (by decide) (fun h1 => ?_) (fun h1 => ?_)
  · replace h := h.1 h1
    refine zR_iinc (v := 1) d_Finder_findWord_96 rfl (by decide) (by decide) ?_
    refine zR_goto (tgt := 18) d_Finder_findWord_99 (by decide) ?_
    refine zR_drop 5 ?_
    exact h
  · replace h := h.2 h1
    refine zR_iload d_Finder_findWord_34 rfl ?_
    refine zR_iload d_Finder_findWord_36 rfl ?_
    refine zR_callS (Y' := Y_Words_yieldOf) (n := 2) (A := [.inl x4, .inl x5]) (S := []) v_Words_yieldOf g_56 d_Finder_findWord_38 rfl (Nat.le_of_ble_eq_true rfl) rfl (zR_cons ?_ h)
    rintro r_ m1 ⟨y2, rfl, h⟩
    show zR κ (d + 1) Y_Finder_findWord 41 [some (.inr 32), some (.inr c), some (.inl x2), some (.inl x3), some (.inl x4), some (.inl x5), none] [.inl y2] m1 Q
    refine zR_istore d_Finder_findWord_41 (by decide) ?_
    refine zR_iload d_Finder_findWord_43 rfl ?_
    refine zR_aload_n d_Finder_findWord_45 rfl rfl ?_
    refine zR_getI (j := 2) d_Finder_findWord_46 sh_32 cl_Finder rfl (by decide) g_53 ?_
    refine zR_icmp_le (tgt := 90) d_Finder_findWord_49 (by decide) (fun h1 => ?_) (fun h1 => ?_)
    · replace h := h.1 h1
      refine zR_iinc (v := 1) d_Finder_findWord_90 rfl (by decide) (by decide) ?_
      refine zR_goto (tgt := 27) d_Finder_findWord_93 (by decide) ?_
      refine zR_drop 6 ?_
      exact h
    · replace h := h.2 h1
      refine zR_iload d_Finder_findWord_52 rfl ?_
      refine zR_iload_n d_Finder_findWord_54 rfl rfl ?_
      refine zR_iload_n d_Finder_findWord_55 rfl rfl ?_
      refine zR_isub d_Finder_findWord_56 ?_
      refine zR_icmp_gt (tgt := 90) d_Finder_findWord_57 (by decide) (fun h1 => ?_) (fun h1 => ?_)
      · replace h := h.1 h1
        refine zR_iinc (v := 1) d_Finder_findWord_90 rfl (by decide) (by decide) ?_
        refine zR_goto (tgt := 27) d_Finder_findWord_93 (by decide) ?_
        refine zR_drop 6 ?_
        exact h
      · replace h := h.2 h1
        refine zR_aload_n d_Finder_findWord_60 rfl rfl ?_
        refine zR_iload_n d_Finder_findWord_61 rfl rfl ?_
        refine zR_iload d_Finder_findWord_62 rfl ?_
        refine zR_iload d_Finder_findWord_64 rfl ?_
        refine zR_callS (Y' := Y_Words_standsIn) (n := 4) (A := [.inr c, .inl x2, .inl x4, .inl x5]) (S := []) v_Words_standsIn g_57 d_Finder_findWord_66 rfl (Nat.le_of_ble_eq_true rfl) rfl (zR_cons ?_ h)
        rintro r_ m3 ⟨y4, rfl, h⟩
        show zR κ (d + 1) Y_Finder_findWord 69 [some (.inr 32), some (.inr c), some (.inl x2), some (.inl x3), some (.inl x4), some (.inl x5), some (.inl y2)] [.inl y4] m3 Q
        refine zR_if_eq (tgt := 90) d_Finder_findWord_69 (by decide) (fun h1 => ?_) (fun h1 => ?_)
        · replace h := h.1 h1
          refine zR_iinc (v := 1) d_Finder_findWord_90 rfl (by decide) (by decide) ?_
          refine zR_goto (tgt := 27) d_Finder_findWord_93 (by decide) ?_
          refine zR_drop 6 ?_
          exact h
        · replace h := h.2 h1
          refine zR_aload_n d_Finder_findWord_72 rfl rfl ?_
          refine zR_iload d_Finder_findWord_73 rfl ?_
          refine zR_put (j := 2) (ty := .int) d_Finder_findWord_75 sh_32 cl_Finder rfl (by decide) rfl (by decide +kernel) g_53 (zint _) ?_
          refine zR_aload_n d_Finder_findWord_78 rfl rfl ?_
          refine zR_iload d_Finder_findWord_79 rfl ?_
          refine zR_put (j := 3) (ty := .int) d_Finder_findWord_81 sh_32 cl_Finder rfl (by decide) rfl (by decide +kernel) g_54 (zint _) ?_
          refine zR_aload_n d_Finder_findWord_84 rfl rfl ?_
          refine zR_iload d_Finder_findWord_85 rfl ?_
          refine zR_put (j := 4) (ty := .int) d_Finder_findWord_87 sh_32 cl_Finder rfl (by decide) rfl (by decide +kernel) g_55 (zint _) ?_
          refine zR_iinc (v := 1) d_Finder_findWord_90 rfl (by decide) (by decide) ?_
          refine zR_goto (tgt := 27) d_Finder_findWord_93 (by decide) ?_
          refine zR_drop 6 ?_
          exact h
theorem w_Finder_isWord_0 {κ : zK} {d : Nat} {mem : zM} {Q : Option zV → zM → Prop}
    (h : (((mem 32 2) < 4 → Q (some (.inl 0)) mem) ∧ (¬ (mem 32 2) < 4 → (((mem 32 2) ≤ (mem 32 0) → Q (some (.inl 0)) mem) ∧ (¬ (mem 32 2) ≤ (mem 32 0) → Q (some (.inl 1)) mem))))) : zR κ d Y_Finder_isWord 0 [some (.inr 32)] [] mem Q := by
  refine zR_aload_n d_Finder_isWord_0 rfl rfl ?_
  refine zR_getI (j := 2) d_Finder_isWord_1 sh_32 cl_Finder rfl (by decide) g_53 ?_
  refine zR_iconst (v := 4) d_Finder_isWord_4 (by decide) ?_
  refine zR_icmp_lt (tgt := 23) d_Finder_isWord_5 (by decide) (fun h1 => ?_) (fun h1 => ?_)
  · replace h := h.1 h1
    refine zR_iconst (v := 0) d_Finder_isWord_23 (by decide) ?_
    exact zR_zreturn rfl d_Finder_isWord_24 (Or.inl rfl) h
  · replace h := h.2 h1
    refine zR_aload_n d_Finder_isWord_8 rfl rfl ?_
    refine zR_getI (j := 2) d_Finder_isWord_9 sh_32 cl_Finder rfl (by decide) g_53 ?_
    refine zR_aload_n d_Finder_isWord_12 rfl rfl ?_
    refine zR_getI (j := 0) d_Finder_isWord_13 sh_32 cl_Finder rfl (by decide) g_50 ?_
    refine zR_icmp_le (tgt := 23) d_Finder_isWord_16 (by decide) (fun h1 => ?_) (fun h1 => ?_)
    · replace h := h.1 h1
      refine zR_iconst (v := 0) d_Finder_isWord_23 (by decide) ?_
      exact zR_zreturn rfl d_Finder_isWord_24 (Or.inl rfl) h
    · replace h := h.2 h1
      refine zR_iconst (v := 1) d_Finder_isWord_19 (by decide) ?_
      refine zR_goto (tgt := 24) d_Finder_isWord_20 (by decide) ?_
      exact zR_zreturn rfl d_Finder_isWord_24 (Or.inr rfl) h
theorem w_Finder_isCopy_0 {κ : zK} {d : Nat} {mem : zM} {Q : Option zV → zM → Prop}
    (h : (((mem 32 0) < 3 → Q (some (.inl 0)) mem) ∧ (¬ (mem 32 0) < 3 → Q (some (.inl 1)) mem))) : zR κ d Y_Finder_isCopy 0 [some (.inr 32)] [] mem Q := by
  refine zR_aload_n d_Finder_isCopy_0 rfl rfl ?_
  refine zR_getI (j := 0) d_Finder_isCopy_1 sh_32 cl_Finder rfl (by decide) g_50 ?_
  refine zR_iconst (v := 3) d_Finder_isCopy_4 (by decide) ?_
  refine zR_icmp_lt (tgt := 12) d_Finder_isCopy_5 (by decide) (fun h1 => ?_) (fun h1 => ?_)
  · replace h := h.1 h1
    refine zR_iconst (v := 0) d_Finder_isCopy_12 (by decide) ?_
    exact zR_zreturn rfl d_Finder_isCopy_13 (Or.inl rfl) h
  · replace h := h.2 h1
    refine zR_iconst (v := 1) d_Finder_isCopy_8 (by decide) ?_
    refine zR_goto (tgt := 13) d_Finder_isCopy_9 (by decide) ?_
    exact zR_zreturn rfl d_Finder_isCopy_13 (Or.inr rfl) h
