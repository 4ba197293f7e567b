/-! pieces of RingPacker$Counts -/
theorem w_Counts_reset_0 {κ : zK} {d : Nat} {mem : zM} {Q : Option zV → zM → Prop} {c : Nat} (hc : is_Counts c)
    (h : Q none (zms (zms (zms (zms mem c 0 0) c 1 0) c 2 0) c 3 0)) : zR κ d Y_Counts_reset 0 [some (.inr c)] [] mem Q := by
  refine zR_aload_n d_Counts_reset_0 rfl rfl ?_
  refine zR_iconst (v := 0) d_Counts_reset_1 (by decide) ?_
  refine zR_put (j := 0) (ty := .int) d_Counts_reset_2 hc cl_Counts rfl (by decide) rfl (by decide +kernel) g_42 (zint _) ?_
  refine zR_aload_n d_Counts_reset_5 rfl rfl ?_
  refine zR_iconst (v := 0) d_Counts_reset_6 (by decide) ?_
  refine zR_put (j := 1) (ty := .int) d_Counts_reset_7 hc cl_Counts rfl (by decide) rfl (by decide +kernel) g_43 (zint _) ?_
  refine zR_aload_n d_Counts_reset_10 rfl rfl ?_
  refine zR_iconst (v := 0) d_Counts_reset_11 (by decide) ?_
  refine zR_put (j := 2) (ty := .int) d_Counts_reset_12 hc cl_Counts rfl (by decide) rfl (by decide +kernel) g_44 (zint _) ?_
  refine zR_aload_n d_Counts_reset_15 rfl rfl ?_
  refine zR_iconst (v := 0) d_Counts_reset_16 (by decide) ?_
  refine zR_put (j := 3) (ty := .int) d_Counts_reset_17 hc cl_Counts rfl (by decide) rfl (by decide +kernel) g_45 (zint _) ?_
  exact zR_return rfl d_Counts_reset_20 h
theorem w_Counts_become_0 {κ : zK} {d : Nat} {mem : zM} {Q : Option zV → zM → Prop} {c c1 : Nat} (hc : is_Counts c) (hc1 : is_Counts c1)
    (h : Q none (zms (zms (zms (zms mem c 0 (mem c1 0)) c 1 ((zms mem c 0 (mem c1 0)) c1 1)) c 2 ((zms (zms mem c 0 (mem c1 0)) c 1 ((zms mem c 0 (mem c1 0)) c1 1)) c1 2)) c 3 ((zms (zms (zms mem c 0 (mem c1 0)) c 1 ((zms mem c 0 (mem c1 0)) c1 1)) c 2 ((zms (zms mem c 0 (mem c1 0)) c 1 ((zms mem c 0 (mem c1 0)) c1 1)) c1 2)) c1 3))) : zR κ d Y_Counts_become 0 [some (.inr c), some (.inr c1)] [] mem Q := by
  refine zR_aload_n d_Counts_become_0 rfl rfl ?_
  refine zR_aload_n d_Counts_become_1 rfl rfl ?_
  refine zR_getI (j := 0) d_Counts_become_2 hc1 cl_Counts rfl (by decide) g_42 ?_
  refine zR_put (j := 0) (ty := .int) d_Counts_become_5 hc cl_Counts rfl (by decide) rfl (by decide +kernel) g_42 (zint _) ?_
  refine zR_aload_n d_Counts_become_8 rfl rfl ?_
  refine zR_aload_n d_Counts_become_9 rfl rfl ?_
  refine zR_getI (j := 1) d_Counts_become_10 hc1 cl_Counts rfl (by decide) g_43 ?_
  refine zR_put (j := 1) (ty := .int) d_Counts_become_13 hc cl_Counts rfl (by decide) rfl (by decide +kernel) g_43 (zint _) ?_
  refine zR_aload_n d_Counts_become_16 rfl rfl ?_
  refine zR_aload_n d_Counts_become_17 rfl rfl ?_
  refine zR_getI (j := 2) d_Counts_become_18 hc1 cl_Counts rfl (by decide) g_44 ?_
  refine zR_put (j := 2) (ty := .int) d_Counts_become_21 hc cl_Counts rfl (by decide) rfl (by decide +kernel) g_44 (zint _) ?_
  refine zR_aload_n d_Counts_become_24 rfl rfl ?_
  refine zR_aload_n d_Counts_become_25 rfl rfl ?_
  refine zR_getI (j := 3) d_Counts_become_26 hc1 cl_Counts rfl (by decide) g_45 ?_
  refine zR_put (j := 3) (ty := .int) d_Counts_become_29 hc cl_Counts rfl (by decide) rfl (by decide +kernel) g_45 (zint _) ?_
  exact zR_return rfl d_Counts_become_32 h
theorem w_Counts_addBlock_0 {κ : zK} {d : Nat} {mem : zM} {Q : Option zV → zM → Prop} {c : Nat} (hc : is_Counts c)
    (h : Q none (zms (zms (zms (zms mem c 0 ((mem c 0) + 1)) c 1 (((zms mem c 0 ((mem c 0) + 1)) c 1) + ((zms mem c 0 ((mem c 0) + 1)) 31 9))) c 2 (((zms (zms mem c 0 ((mem c 0) + 1)) c 1 (((zms mem c 0 ((mem c 0) + 1)) c 1) + ((zms mem c 0 ((mem c 0) + 1)) 31 9))) c 2) + ((zms (zms mem c 0 ((mem c 0) + 1)) c 1 (((zms mem c 0 ((mem c 0) + 1)) c 1) + ((zms mem c 0 ((mem c 0) + 1)) 31 9))) 31 10))) c 3 (((zms (zms (zms mem c 0 ((mem c 0) + 1)) c 1 (((zms mem c 0 ((mem c 0) + 1)) c 1) + ((zms mem c 0 ((mem c 0) + 1)) 31 9))) c 2 (((zms (zms mem c 0 ((mem c 0) + 1)) c 1 (((zms mem c 0 ((mem c 0) + 1)) c 1) + ((zms mem c 0 ((mem c 0) + 1)) 31 9))) c 2) + ((zms (zms mem c 0 ((mem c 0) + 1)) c 1 (((zms mem c 0 ((mem c 0) + 1)) c 1) + ((zms mem c 0 ((mem c 0) + 1)) 31 9))) 31 10))) c 3) + ((zms (zms (zms mem c 0 ((mem c 0) + 1)) c 1 (((zms mem c 0 ((mem c 0) + 1)) c 1) + ((zms mem c 0 ((mem c 0) + 1)) 31 9))) c 2 (((zms (zms mem c 0 ((mem c 0) + 1)) c 1 (((zms mem c 0 ((mem c 0) + 1)) c 1) + ((zms mem c 0 ((mem c 0) + 1)) 31 9))) c 2) + ((zms (zms mem c 0 ((mem c 0) + 1)) c 1 (((zms mem c 0 ((mem c 0) + 1)) c 1) + ((zms mem c 0 ((mem c 0) + 1)) 31 9))) 31 10))) 31 11)))) : zR κ d Y_Counts_addBlock 0 [some (.inr c), some (.inr 31)] [] mem Q := by
  refine zR_aload_n d_Counts_addBlock_0 rfl rfl ?_
  refine zR_dup d_Counts_addBlock_1 ?_
  refine zR_getI (j := 0) d_Counts_addBlock_2 hc cl_Counts rfl (by decide) g_42 ?_
  refine zR_iconst (v := 1) d_Counts_addBlock_5 (by decide) ?_
  refine zR_iadd d_Counts_addBlock_6 ?_
  refine zR_put (j := 0) (ty := .int) d_Counts_addBlock_7 hc cl_Counts rfl (by decide) rfl (by decide +kernel) g_42 (zint _) ?_
  refine zR_aload_n d_Counts_addBlock_10 rfl rfl ?_
  refine zR_dup d_Counts_addBlock_11 ?_
  refine zR_getI (j := 1) d_Counts_addBlock_12 hc cl_Counts rfl (by decide) g_43 ?_
  refine zR_aload_n d_Counts_addBlock_15 rfl rfl ?_
  refine zR_getIN (j := 9) d_Counts_addBlock_16 sh_31 cl_Plan rfl (by decide) n_46 ?_
  refine zR_iadd d_Counts_addBlock_19 ?_
  refine zR_put (j := 1) (ty := .int) d_Counts_addBlock_20 hc cl_Counts rfl (by decide) rfl (by decide +kernel) g_43 (zint _) ?_
  refine zR_aload_n d_Counts_addBlock_23 rfl rfl ?_
  refine zR_dup d_Counts_addBlock_24 ?_
  refine zR_getI (j := 2) d_Counts_addBlock_25 hc cl_Counts rfl (by decide) g_44 ?_
  refine zR_aload_n d_Counts_addBlock_28 rfl rfl ?_
  refine zR_getIN (j := 10) d_Counts_addBlock_29 sh_31 cl_Plan rfl (by decide) n_47 ?_
  refine zR_iadd d_Counts_addBlock_32 ?_
  refine zR_put (j := 2) (ty := .int) d_Counts_addBlock_33 hc cl_Counts rfl (by decide) rfl (by decide +kernel) g_44 (zint _) ?_
  refine zR_aload_n d_Counts_addBlock_36 rfl rfl ?_
  refine zR_dup d_Counts_addBlock_37 ?_
  refine zR_getI (j := 3) d_Counts_addBlock_38 hc cl_Counts rfl (by decide) g_45 ?_
  refine zR_aload_n d_Counts_addBlock_41 rfl rfl ?_
  refine zR_getIN (j := 11) d_Counts_addBlock_42 sh_31 cl_Plan rfl (by decide) n_48 ?_
  refine zR_iadd d_Counts_addBlock_45 ?_
  refine zR_put (j := 3) (ty := .int) d_Counts_addBlock_46 hc cl_Counts rfl (by decide) rfl (by decide +kernel) g_45 (zint _) ?_
  exact zR_return rfl d_Counts_addBlock_49 h
