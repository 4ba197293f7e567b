/-! pieces of RingPacker$Codes -/
theorem w_Codes_literalAt_0 {κ : zK} {d : Nat} {mem : zM} {Q : Option zV → zM → Prop} {c c1 : Nat} {x2 x3 : Int32} (hc : is_Codes c) (hc1 : is_Text c1)
    (h : ((x3 = 0 → Q (some (.inr (c + 1))) mem) ∧ (¬ x3 = 0 → zR κ d Y_Text_followsSmallLetter 0 [some (.inr c1), some (.inl x2), none] [] mem (fun r m1 => ∃ y2 : Int32, r = some (.inl y2) ∧ ((y2 = 0 → Q (some (.inr (c + 1))) m1) ∧ (¬ y2 = 0 → Q (some (.inr (c + 6))) m1)))))) : zR κ (d + 1) Y_Codes_literalAt 0 [some (.inr c), some (.inr c1), some (.inl x2), some (.inl x3)] [] mem Q := by
  refine zR_iload_n d_Codes_literalAt_0 rfl rfl ?_
  refine zR_if_eq (tgt := 19) d_Codes_literalAt_1 (by decide) (fun h1 => ?_) (fun h1 => ?_)
  · replace h := h.1 h1
    refine zR_aload_n d_Codes_literalAt_19 rfl rfl ?_
    refine zR_getR (j := 0) d_Codes_literalAt_20 hc.1 cl_Codes rfl (by decide) g_34 ?_
    exact zR_areturn rfl d_Codes_literalAt_23 h
  · replace h := h.2 h1
    refine zR_aload_n d_Codes_literalAt_4 rfl rfl ?_
    refine zR_iload_n d_Codes_literalAt_5 rfl rfl ?_
    refine zR_callV (Y' := Y_Text_followsSmallLetter) (n := 1) (A := [.inl x2]) (b := c1) (S := []) v_Text_followsSmallLetter g_35 hc1.1 cl_Text rfl d_Codes_literalAt_6 rfl (Nat.le_of_ble_eq_true rfl) rfl (zR_cons ?_ h)
    rintro r_ m1 ⟨y2, rfl, h⟩
    show zR κ (d + 1) Y_Codes_literalAt 9 [some (.inr c), some (.inr c1), some (.inl x2), some (.inl x3)] [.inl y2] m1 Q
    refine zR_if_eq (tgt := 19) d_Codes_literalAt_9 (by decide) (fun h1 => ?_) (fun h1 => ?_)
    · replace h := h.1 h1
      refine zR_aload_n d_Codes_literalAt_19 rfl rfl ?_
      refine zR_getR (j := 0) d_Codes_literalAt_20 hc.1 cl_Codes rfl (by decide) g_34 ?_
      exact zR_areturn rfl d_Codes_literalAt_23 h
    · replace h := h.2 h1
      refine zR_aload_n d_Codes_literalAt_12 rfl rfl ?_
      refine zR_getR (j := 1) d_Codes_literalAt_13 hc.1 cl_Codes rfl (by decide) g_36 ?_
      refine zR_goto (tgt := 23) d_Codes_literalAt_16 (by decide) ?_
      exact zR_areturn rfl d_Codes_literalAt_23 h
theorem w_Codes_readDescriptions_0 {κ : zK} {d : Nat} {mem : zM} {Q : Option zV → zM → Prop} {c : Nat} {x2 : Int32} (hc : is_Codes c)
    (h : zR κ d Y_Code_readDescription 0 [some (.inr (c + 1)), some (.inr 3), none, none] [] mem (fun r m1 => ∃ y2 : Int32, r = some (.inl y2) ∧ ((y2 = 0 → Q (some (.inl 0)) m1) ∧ (¬ y2 = 0 → ((x2 = 0 → zR κ (d + 1) Y_Codes_readDescriptions 26 [some (.inr c), some (.inr 3), some (.inl x2)] [] m1 Q) ∧ (¬ x2 = 0 → zR κ d Y_Code_readDescription 0 [some (.inr (c + 6)), some (.inr 3), none, none] [] m1 (fun r m3 => ∃ y4 : Int32, r = some (.inl y4) ∧ ((y4 = 0 → Q (some (.inl 0)) m3) ∧ (¬ y4 = 0 → zR κ (d + 1) Y_Codes_readDescriptions 26 [some (.inr c), some (.inr 3), some (.inl x2)] [] m3 Q))))))))) : zR κ (d + 1) Y_Codes_readDescriptions 0 [some (.inr c), some (.inr 3), some (.inl x2)] [] mem Q := by
  refine zR_aload_n d_Codes_readDescriptions_0 rfl rfl ?_
  refine zR_getR (j := 0) d_Codes_readDescriptions_1 hc.1 cl_Codes rfl (by decide) g_34 ?_
  refine zR_aload_n d_Codes_readDescriptions_4 rfl rfl ?_
  refine zR_callV (Y' := Y_Code_readDescription) (n := 1) (A := [.inr 3]) (b := (c + 1)) (S := []) v_Code_readDescription g_37 (hc.2.1).1 cl_Code rfl d_Codes_readDescriptions_5 rfl (Nat.le_of_ble_eq_true rfl) rfl (zR_cons ?_ h)
  rintro r_ m1 ⟨y2, rfl, h⟩
  show zR κ (d + 1) Y_Codes_readDescriptions 8 [some (.inr c), some (.inr 3), some (.inl x2)] [.inl y2] m1 Q
  refine zR_if_eq (tgt := 52) d_Codes_readDescriptions_8 (by decide) (fun h1 => ?_) (fun h1 => ?_)
  · replace h := h.1 h1
    refine zR_iconst (v := 0) d_Codes_readDescriptions_52 (by decide) ?_
    exact zR_zreturn rfl d_Codes_readDescriptions_53 (Or.inl rfl) h
  · replace h := h.2 h1
    refine zR_iload_n d_Codes_readDescriptions_11 rfl rfl ?_
    refine zR_if_eq (tgt := 26) d_Codes_readDescriptions_12 (by decide) (fun h1 => ?_) (fun h1 => ?_)
    · replace h := h.1 h1
      exact h
    · replace h := h.2 h1
      refine zR_aload_n d_Codes_readDescriptions_15 rfl rfl ?_
      refine zR_getR (j := 1) d_Codes_readDescriptions_16 hc.1 cl_Codes rfl (by decide) g_36 ?_
      refine zR_aload_n d_Codes_readDescriptions_19 rfl rfl ?_
      refine zR_callV (Y' := Y_Code_readDescription) (n := 1) (A := [.inr 3]) (b := (c + 6)) (S := []) v_Code_readDescription g_37 (hc.2.2.1).1 cl_Code rfl d_Codes_readDescriptions_20 rfl (Nat.le_of_ble_eq_true rfl) rfl (zR_cons ?_ h)
      rintro r_ m3 ⟨y4, rfl, h⟩
      show zR κ (d + 1) Y_Codes_readDescriptions 23 [some (.inr c), some (.inr 3), some (.inl x2)] [.inl y4] m3 Q
      refine zR_if_eq (tgt := 52) d_Codes_readDescriptions_23 (by decide) (fun h1 => ?_) (fun h1 => ?_)
      · replace h := h.1 h1
        refine zR_iconst (v := 0) d_Codes_readDescriptions_52 (by decide) ?_
        exact zR_zreturn rfl d_Codes_readDescriptions_53 (Or.inl rfl) h
      · replace h := h.2 h1
        exact h
theorem w_Codes_readDescriptions_26 {κ : zK} {d : Nat} {mem : zM} {Q : Option zV → zM → Prop} {c : Nat} {x2 : Int32} (hc : is_Codes c)
    (h : zR κ d Y_Code_readDescription 0 [some (.inr (c + 11)), some (.inr 3), none, none] [] mem (fun r m1 => ∃ y2 : Int32, r = some (.inl y2) ∧ ((y2 = 0 → Q (some (.inl 0)) m1) ∧ (¬ y2 = 0 → zR κ d Y_Code_readDescription 0 [some (.inr (c + 16)), some (.inr 3), none, none] [] m1 (fun r m3 => ∃ y4 : Int32, r = some (.inl y4) ∧ ((y4 = 0 → Q (some (.inl 0)) m3) ∧ (¬ y4 = 0 → Q (some (.inl 1)) m3))))))) : zR κ (d + 1) Y_Codes_readDescriptions 26 [some (.inr c), some (.inr 3), some (.inl x2)] [] mem Q := by
  refine zR_aload_n d_Codes_readDescriptions_26 rfl rfl ?_
  refine zR_getR (j := 2) d_Codes_readDescriptions_27 hc.1 cl_Codes rfl (by decide) g_38 ?_
  refine zR_aload_n d_Codes_readDescriptions_30 rfl rfl ?_
  refine zR_callV (Y' := Y_Code_readDescription) (n := 1) (A := [.inr 3]) (b := (c + 11)) (S := []) v_Code_readDescription g_37 (hc.2.2.2.1).1 cl_Code rfl d_Codes_readDescriptions_31 rfl (Nat.le_of_ble_eq_true rfl) rfl (zR_cons ?_ h)
  rintro r_ m1 ⟨y2, rfl, h⟩
  show zR κ (d + 1) Y_Codes_readDescriptions 34 [some (.inr c), some (.inr 3), some (.inl x2)] [.inl y2] m1 Q
  refine zR_if_eq (tgt := 52) d_Codes_readDescriptions_34 (by decide) (fun h1 => ?_) (fun h1 => ?_)
  · replace h := h.1 h1
    refine zR_iconst (v := 0) d_Codes_readDescriptions_52 (by decide) ?_
    exact zR_zreturn rfl d_Codes_readDescriptions_53 (Or.inl rfl) h
  · replace h := h.2 h1
    refine zR_aload_n d_Codes_readDescriptions_37 rfl rfl ?_
    refine zR_getR (j := 3) d_Codes_readDescriptions_38 hc.1 cl_Codes rfl (by decide) g_39 ?_
    refine zR_aload_n d_Codes_readDescriptions_41 rfl rfl ?_
    refine zR_callV (Y' := Y_Code_readDescription) (n := 1) (A := [.inr 3]) (b := (c + 16)) (S := []) v_Code_readDescription g_37 (hc.2.2.2.2).1 cl_Code rfl d_Codes_readDescriptions_42 rfl (Nat.le_of_ble_eq_true rfl) rfl (zR_cons ?_ h)
    rintro r_ m3 ⟨y4, rfl, h⟩
    show zR κ (d + 1) Y_Codes_readDescriptions 45 [some (.inr c), some (.inr 3), some (.inl x2)] [.inl y4] m3 Q
    refine zR_if_eq (tgt := 52) d_Codes_readDescriptions_45 (by decide) (fun h1 => ?_) (fun h1 => ?_)
    · replace h := h.1 h1
      refine zR_iconst (v := 0) d_Codes_readDescriptions_52 (by decide) ?_
      exact zR_zreturn rfl d_Codes_readDescriptions_53 (Or.inl rfl) h
    · replace h := h.2 h1
      refine zR_iconst (v := 1) d_Codes_readDescriptions_48 (by decide) ?_
      refine zR_goto (tgt := 53) d_Codes_readDescriptions_49 (by decide) ?_
      exact zR_zreturn rfl d_Codes_readDescriptions_53 (Or.inr rfl) h
theorem w_Codes_forgetTimes_0 {κ : zK} {d : Nat} {mem : zM} {Q : Option zV → zM → Prop} {c : Nat} (hc : is_Codes c)
    (h : zR κ d Y_Code_forgetTimes 0 [some (.inr (c + 1)), none] [] mem (fun r m1 => r = none ∧ zR κ d Y_Code_forgetTimes 0 [some (.inr (c + 6)), none] [] m1 (fun r m2 => r = none ∧ zR κ d Y_Code_forgetTimes 0 [some (.inr (c + 11)), none] [] m2 (fun r m3 => r = none ∧ zR κ d Y_Code_forgetTimes 0 [some (.inr (c + 16)), none] [] m3 (fun r m4 => r = none ∧ Q none m4))))) : zR κ (d + 1) Y_Codes_forgetTimes 0 [some (.inr c)] [] mem Q := by
  refine zR_aload_n d_Codes_forgetTimes_0 rfl rfl ?_
  refine zR_getR (j := 0) d_Codes_forgetTimes_1 hc.1 cl_Codes rfl (by decide) g_34 ?_
  refine zR_callV (Y' := Y_Code_forgetTimes) (n := 0) (A := []) (b := (c + 1)) (S := []) v_Code_forgetTimes g_40 (hc.2.1).1 cl_Code rfl d_Codes_forgetTimes_4 rfl (Nat.le_of_ble_eq_true rfl) rfl (zR_cons ?_ h)
  rintro r_ m1 ⟨rfl, h⟩
  show zR κ (d + 1) Y_Codes_forgetTimes 7 [some (.inr c)] [] m1 Q
  refine zR_aload_n d_Codes_forgetTimes_7 rfl rfl ?_
  refine zR_getR (j := 1) d_Codes_forgetTimes_8 hc.1 cl_Codes rfl (by decide) g_36 ?_
  refine zR_callV (Y' := Y_Code_forgetTimes) (n := 0) (A := []) (b := (c + 6)) (S := []) v_Code_forgetTimes g_40 (hc.2.2.1).1 cl_Code rfl d_Codes_forgetTimes_11 rfl (Nat.le_of_ble_eq_true rfl) rfl (zR_cons ?_ h)
  rintro r_ m2 ⟨rfl, h⟩
  show zR κ (d + 1) Y_Codes_forgetTimes 14 [some (.inr c)] [] m2 Q
  refine zR_aload_n d_Codes_forgetTimes_14 rfl rfl ?_
  refine zR_getR (j := 2) d_Codes_forgetTimes_15 hc.1 cl_Codes rfl (by decide) g_38 ?_
  refine zR_callV (Y' := Y_Code_forgetTimes) (n := 0) (A := []) (b := (c + 11)) (S := []) v_Code_forgetTimes g_40 (hc.2.2.2.1).1 cl_Code rfl d_Codes_forgetTimes_18 rfl (Nat.le_of_ble_eq_true rfl) rfl (zR_cons ?_ h)
  rintro r_ m3 ⟨rfl, h⟩
  show zR κ (d + 1) Y_Codes_forgetTimes 21 [some (.inr c)] [] m3 Q
  refine zR_aload_n d_Codes_forgetTimes_21 rfl rfl ?_
  refine zR_getR (j := 3) d_Codes_forgetTimes_22 hc.1 cl_Codes rfl (by decide) g_39 ?_
  refine zR_callV (Y' := Y_Code_forgetTimes) (n := 0) (A := []) (b := (c + 16)) (S := []) v_Code_forgetTimes g_40 (hc.2.2.2.2).1 cl_Code rfl d_Codes_forgetTimes_25 rfl (Nat.le_of_ble_eq_true rfl) rfl (zR_cons ?_ h)
  rintro r_ m4 ⟨rfl, h⟩
  show zR κ (d + 1) Y_Codes_forgetTimes 28 [some (.inr c)] [] m4 Q
  exact zR_return rfl d_Codes_forgetTimes_28 h
theorem w_Codes_makeFromTimes_0 {κ : zK} {d : Nat} {mem : zM} {Q : Option zV → zM → Prop} {c : Nat} (hc : is_Codes c)
    (h : zR κ d Y_Code_makeFromTimes 0 [some (.inr (c + 1)), none] [] mem (fun r m1 => r = none ∧ zR κ d Y_Code_makeFromTimes 0 [some (.inr (c + 6)), none] [] m1 (fun r m2 => r = none ∧ zR κ d Y_Code_makeFromTimes 0 [some (.inr (c + 11)), none] [] m2 (fun r m3 => r = none ∧ zR κ d Y_Code_makeFromTimes 0 [some (.inr (c + 16)), none] [] m3 (fun r m4 => r = none ∧ Q none m4))))) : zR κ (d + 1) Y_Codes_makeFromTimes 0 [some (.inr c)] [] mem Q := by
  refine zR_aload_n d_Codes_makeFromTimes_0 rfl rfl ?_
  refine zR_getR (j := 0) d_Codes_makeFromTimes_1 hc.1 cl_Codes rfl (by decide) g_34 ?_
  refine zR_callV (Y' := Y_Code_makeFromTimes) (n := 0) (A := []) (b := (c + 1)) (S := []) v_Code_makeFromTimes g_41 (hc.2.1).1 cl_Code rfl d_Codes_makeFromTimes_4 rfl (Nat.le_of_ble_eq_true rfl) rfl (zR_cons ?_ h)
  rintro r_ m1 ⟨rfl, h⟩
  show zR κ (d + 1) Y_Codes_makeFromTimes 7 [some (.inr c)] [] m1 Q
  refine zR_aload_n d_Codes_makeFromTimes_7 rfl rfl ?_
  refine zR_getR (j := 1) d_Codes_makeFromTimes_8 hc.1 cl_Codes rfl (by decide) g_36 ?_
  refine zR_callV (Y' := Y_Code_makeFromTimes) (n := 0) (A := []) (b := (c + 6)) (S := []) v_Code_makeFromTimes g_41 (hc.2.2.1).1 cl_Code rfl d_Codes_makeFromTimes_11 rfl (Nat.le_of_ble_eq_true rfl) rfl (zR_cons ?_ h)
  rintro r_ m2 ⟨rfl, h⟩
  show zR κ (d + 1) Y_Codes_makeFromTimes 14 [some (.inr c)] [] m2 Q
  refine zR_aload_n d_Codes_makeFromTimes_14 rfl rfl ?_
  refine zR_getR (j := 2) d_Codes_makeFromTimes_15 hc.1 cl_Codes rfl (by decide) g_38 ?_
  refine zR_callV (Y' := Y_Code_makeFromTimes) (n := 0) (A := []) (b := (c + 11)) (S := []) v_Code_makeFromTimes g_41 (hc.2.2.2.1).1 cl_Code rfl d_Codes_makeFromTimes_18 rfl (Nat.le_of_ble_eq_true rfl) rfl (zR_cons ?_ h)
  rintro r_ m3 ⟨rfl, h⟩
  show zR κ (d + 1) Y_Codes_makeFromTimes 21 [some (.inr c)] [] m3 Q
  refine zR_aload_n d_Codes_makeFromTimes_21 rfl rfl ?_
  refine zR_getR (j := 3) d_Codes_makeFromTimes_22 hc.1 cl_Codes rfl (by decide) g_39 ?_
  refine zR_callV (Y' := Y_Code_makeFromTimes) (n := 0) (A := []) (b := (c + 16)) (S := []) v_Code_makeFromTimes g_41 (hc.2.2.2.2).1 cl_Code rfl d_Codes_makeFromTimes_25 rfl (Nat.le_of_ble_eq_true rfl) rfl (zR_cons ?_ h)
  rintro r_ m4 ⟨rfl, h⟩
  show zR κ (d + 1) Y_Codes_makeFromTimes 28 [some (.inr c)] [] m4 Q
  exact zR_return rfl d_Codes_makeFromTimes_28 h
