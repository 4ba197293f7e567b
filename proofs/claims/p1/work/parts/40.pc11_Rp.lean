/-! pieces of RingPacker -/
theorem w_Rp_put_0 {κ : zK} {d : Nat} {mem : zM} {Q : Option zV → zM → Prop} {x1 : Int32}
    (h : zR κ d Y_Text_add 0 [some (.inr 1), some (.inl x1)] [] mem (fun r m1 => ∃ y2 : Int32, r = some (.inl y2) ∧ (y2 = 0 ∨ y2 = 1) ∧ Q (some (.inl y2)) m1)) : zR κ (d + 1) Y_Rp_put 0 [some (.inr 0), some (.inl x1)] [] mem Q := by
  refine zR_aload_n d_Rp_put_0 rfl rfl ?_
  refine zR_getR (j := 0) d_Rp_put_1 sh_0 cl_Rp rfl (by decide) g_191 ?_
  refine zR_iload_n d_Rp_put_4 rfl rfl ?_
  refine zR_callV (Y' := Y_Text_add) (n := 1) (A := [.inl x1]) (b := 1) (S := []) v_Text_add g_192 sh_1 cl_Text rfl d_Rp_put_5 rfl (Nat.le_of_ble_eq_true rfl) rfl (zR_cons ?_ h)
  rintro r_ m1 ⟨y2, rfl, h⟩
  show zR κ (d + 1) Y_Rp_put 8 [some (.inr 0), some (.inl x1)] [.inl y2] m1 Q
  exact zR_zreturn rfl d_Rp_put_8 h.1 h.2
theorem w_Rp_clear_0 {κ : zK} {d : Nat} {mem : zM} {Q : Option zV → zM → Prop}
    (h : zR κ d Y_Text_makeEmpty 0 [some (.inr 1)] [] mem (fun r m1 => r = none ∧ Q none m1)) : zR κ (d + 1) Y_Rp_clear 0 [some (.inr 0)] [] mem Q := by
  refine zR_aload_n d_Rp_clear_0 rfl rfl ?_
  refine zR_getR (j := 0) d_Rp_clear_1 sh_0 cl_Rp rfl (by decide) g_191 ?_
  refine zR_callV (Y' := Y_Text_makeEmpty) (n := 0) (A := []) (b := 1) (S := []) v_Text_makeEmpty g_193 sh_1 cl_Text rfl d_Rp_clear_4 rfl (Nat.le_of_ble_eq_true rfl) rfl (zR_cons ?_ h)
  rintro r_ m1 ⟨rfl, h⟩
  show zR κ (d + 1) Y_Rp_clear 7 [some (.inr 0)] [] m1 Q
  exact zR_return rfl d_Rp_clear_7 h
theorem w_Rp_length_0 {κ : zK} {d : Nat} {mem : zM} {Q : Option zV → zM → Prop}
    (h : Q (some (.inl (mem 1 1))) mem) : zR κ d Y_Rp_length 0 [some (.inr 0)] [] mem Q := by
  refine zR_aload_n d_Rp_length_0 rfl rfl ?_
  refine zR_getR (j := 0) d_Rp_length_1 sh_0 cl_Rp rfl (by decide) g_191 ?_
  refine zR_getIN (j := 1) d_Rp_length_4 sh_1 cl_Text rfl (by decide) n_194 ?_
  exact zR_ireturn rfl d_Rp_length_7 h
theorem w_Rp_at_0 {κ : zK} {d : Nat} {mem : zM} {Q : Option zV → zM → Prop} {x1 : Int32}
    (h : zR κ d Y_Text_get 0 [some (.inr 1), some (.inl x1)] [] mem (fun r m1 => ∃ y2 : Int32, r = some (.inl y2) ∧ Q (some (.inl y2)) m1)) : zR κ (d + 1) Y_Rp_at 0 [some (.inr 0), some (.inl x1)] [] mem Q := by
  refine zR_aload_n d_Rp_at_0 rfl rfl ?_
  refine zR_getR (j := 0) d_Rp_at_1 sh_0 cl_Rp rfl (by decide) g_191 ?_
  refine zR_iload_n d_Rp_at_4 rfl rfl ?_
  refine zR_callV (Y' := Y_Text_get) (n := 1) (A := [.inl x1]) (b := 1) (S := []) v_Text_get g_195 sh_1 cl_Text rfl d_Rp_at_5 rfl (Nat.le_of_ble_eq_true rfl) rfl (zR_cons ?_ h)
  rintro r_ m1 ⟨y2, rfl, h⟩
  show zR κ (d + 1) Y_Rp_at 8 [some (.inr 0), some (.inl x1)] [.inl y2] m1 Q
  exact zR_ireturn rfl d_Rp_at_8 h
theorem w_Rp_pack_0 {κ : zK} {d : Nat} {mem : zM} {Q : Option zV → zM → Prop}
    (h : zR κ d Y_BitStream_startWriting 0 [some (.inr 3)] [] mem (fun r m1 => r = none ∧ zR κ d Y_Packer_start 0 [some (.inr 6)] [] m1 (fun r m2 => r = none ∧ ((¬ (m2 1 1) = 0 → zR κ (d + 1) Y_Rp_pack 44 [some (.inr 0), some (.inl 0)] [] m2 Q) ∧ ((m2 1 1) = 0 → zR κ d Y_BitStream_give 0 [some (.inr 3), some (.inl 1), some (.inl 1), none, none, none] [] m2 (fun r m3 => r = none ∧ zR κ d Y_BitStream_give 0 [some (.inr 3), some (.inl 1), some (.inl 1), none, none, none] [] m3 (fun r m4 => r = none ∧ zR κ (d + 1) Y_Rp_pack 44 [some (.inr 0), some (.inl 0)] [] m4 Q))))))) : zR κ (d + 1) Y_Rp_pack 0 [some (.inr 0), none] [] mem Q := by
  refine zR_aload_n d_Rp_pack_0 rfl rfl ?_
  refine zR_getR (j := 1) d_Rp_pack_1 sh_0 cl_Rp rfl (by decide) g_196 ?_
  refine zR_callV (Y' := Y_BitStream_startWriting) (n := 0) (A := []) (b := 3) (S := []) v_BitStream_startWriting g_197 sh_3 cl_BitStream rfl d_Rp_pack_4 rfl (Nat.le_of_ble_eq_true rfl) rfl (zR_cons ?_ h)
  rintro r_ m1 ⟨rfl, h⟩
  show zR κ (d + 1) Y_Rp_pack 7 [some (.inr 0), none] [] m1 Q
  refine zR_aload_n d_Rp_pack_7 rfl rfl ?_
  refine zR_getR (j := 3) d_Rp_pack_8 sh_0 cl_Rp rfl (by decide) g_198 ?_
  refine zR_callV (Y' := Y_Packer_start) (n := 0) (A := []) (b := 6) (S := []) v_Packer_start g_199 sh_6 cl_Packer rfl d_Rp_pack_11 rfl (Nat.le_of_ble_eq_true rfl) rfl (zR_cons ?_ h)
  rintro r_ m2 ⟨rfl, h⟩
  show zR κ (d + 1) Y_Rp_pack 14 [some (.inr 0), none] [] m2 Q
  refine zR_aload_n d_Rp_pack_14 rfl rfl ?_
  refine zR_getR (j := 0) d_Rp_pack_15 sh_0 cl_Rp rfl (by decide) g_191 ?_
  refine zR_getIN (j := 1) d_Rp_pack_18 sh_1 cl_Text rfl (by decide) n_194 ?_
  refine zR_if_ne (tgt := 42) d_Rp_pack_21 (by decide) (fun h1 => ?_) (fun h1 => ?_)
  · replace h := h.1 h1
    refine zR_iconst (v := 0) d_Rp_pack_42 (by decide) ?_
    refine zR_istore_n d_Rp_pack_43 rfl (by decide) ?_
    exact h
  · replace h := h.2 h1
    refine zR_aload_n d_Rp_pack_24 rfl rfl ?_
    refine zR_getR (j := 1) d_Rp_pack_25 sh_0 cl_Rp rfl (by decide) g_196 ?_
    refine zR_iconst (v := 1) d_Rp_pack_28 (by decide) ?_
    refine zR_iconst (v := 1) d_Rp_pack_29 (by decide) ?_
    refine zR_callV (Y' := Y_BitStream_give) (n := 2) (A := [.inl 1, .inl 1]) (b := 3) (S := []) v_BitStream_give g_200 sh_3 cl_BitStream rfl d_Rp_pack_30 rfl (Nat.le_of_ble_eq_true rfl) rfl (zR_cons ?_ h)
    rintro r_ m3 ⟨rfl, h⟩
    show zR κ (d + 1) Y_Rp_pack 33 [some (.inr 0), none] [] m3 Q
    refine zR_aload_n d_Rp_pack_33 rfl rfl ?_
    refine zR_getR (j := 1) d_Rp_pack_34 sh_0 cl_Rp rfl (by decide) g_196 ?_
    refine zR_iconst (v := 1) d_Rp_pack_37 (by decide) ?_
    refine zR_iconst (v := 1) d_Rp_pack_38 (by decide) ?_
    refine zR_callV (Y' := Y_BitStream_give) (n := 2) (A := [.inl 1, .inl 1]) (b := 3) (S := []) v_BitStream_give g_200 sh_3 cl_BitStream rfl d_Rp_pack_39 rfl (Nat.le_of_ble_eq_true rfl) rfl (zR_cons ?_ h)
    rintro r_ m4 ⟨rfl, h⟩
    show zR κ (d + 1) Y_Rp_pack 42 [some (.inr 0), none] [] m4 Q
    refine zR_iconst (v := 0) d_Rp_pack_42 (by decide) ?_
    refine zR_istore_n d_Rp_pack_43 rfl (by decide) ?_
    exact h
theorem w_Rp_pack_44 {κ : zK} {d : Nat} {mem : zM} {Q : Option zV → zM → Prop} {x1 : Int32}
    (h : (((mem 1 1) ≤ x1 → zR κ d Y_BitStream_finishWriting 0 [some (.inr 3)] [] mem (fun r m1 => r = none ∧ zR κ d Y_Counts_become 0 [some (.inr 5), some (.inr 7)] [] m1 (fun r m2 => r = none ∧ Q (some (.inl (m2 3 1))) m2))) ∧ (¬ (mem 1 1) ≤ x1 → zR κ d Y_Packer_writeBlock 0 [some (.inr 6), some (.inr 1), some (.inr 3), some (.inl x1), none, none, none, none, none] [] mem (fun r m3 => r = none ∧ zR κ (d + 1) Y_Rp_pack 44 [some (.inr 0), some (.inl (x1 + 48))] [] m3 Q)))) : zR κ (d + 1) Y_Rp_pack 44 [some (.inr 0), some (.inl x1)] [] mem Q := by
  refine zR_iload_n d_Rp_pack_44 rfl rfl ?_
  refine zR_aload_n d_Rp_pack_45 rfl rfl ?_
  refine zR_getR (j := 0) d_Rp_pack_46 sh_0 cl_Rp rfl (by decide) g_191 ?_
  refine zR_getIN (j := 1) d_Rp_pack_49 sh_1 cl_Text rfl (by decide) n_194 ?_
  refine zR_icmp_ge (tgt := 77) d_Rp_pack_52 (by decide) (fun h1 => ?_) (fun h1 => ?_)
  · replace h := h.1 h1
    refine zR_aload_n d_Rp_pack_77 rfl rfl ?_
    refine zR_getR (j := 1) d_Rp_pack_78 sh_0 cl_Rp rfl (by decide) g_196 ?_
    refine zR_callV (Y' := Y_BitStream_finishWriting) (n := 0) (A := []) (b := 3) (S := []) v_BitStream_finishWriting g_201 sh_3 cl_BitStream rfl d_Rp_pack_81 rfl (Nat.le_of_ble_eq_true rfl) rfl (zR_cons ?_ h)
    rintro r_ m1 ⟨rfl, h⟩
    show zR κ (d + 1) Y_Rp_pack 84 [some (.inr 0), some (.inl x1)] [] m1 Q
    refine zR_aload_n d_Rp_pack_84 rfl rfl ?_
    refine zR_getR (j := 2) d_Rp_pack_85 sh_0 cl_Rp rfl (by decide) g_202 ?_
    refine zR_aload_n d_Rp_pack_88 rfl rfl ?_
    refine zR_getR (j := 3) d_Rp_pack_89 sh_0 cl_Rp rfl (by decide) g_198 ?_
    refine zR_getRN (j := 0) d_Rp_pack_92 sh_6 cl_Packer rfl (by decide) n_203 ?_
    refine zR_callV (Y' := Y_Counts_become) (n := 1) (A := [.inr 7]) (b := 5) (S := []) v_Counts_become g_204 sh_5 cl_Counts rfl d_Rp_pack_95 rfl (Nat.le_of_ble_eq_true rfl) rfl (zR_cons ?_ h)
    rintro r_ m2 ⟨rfl, h⟩
    show zR κ (d + 1) Y_Rp_pack 98 [some (.inr 0), some (.inl x1)] [] m2 Q
    refine zR_aload_n d_Rp_pack_98 rfl rfl ?_
    refine zR_getR (j := 1) d_Rp_pack_99 sh_0 cl_Rp rfl (by decide) g_196 ?_
    refine zR_getIN (j := 1) d_Rp_pack_102 sh_3 cl_BitStream rfl (by decide) n_205 ?_
    exact zR_ireturn rfl d_Rp_pack_105 h
  · replace h := h.2 h1
    refine zR_aload_n d_Rp_pack_55 rfl rfl ?_
    refine zR_getR (j := 3) d_Rp_pack_56 sh_0 cl_Rp rfl (by decide) g_198 ?_
    refine zR_aload_n d_Rp_pack_59 rfl rfl ?_
    refine zR_getR (j := 0) d_Rp_pack_60 sh_0 cl_Rp rfl (by decide) g_191 ?_
    refine zR_aload_n d_Rp_pack_63 rfl rfl ?_
    refine zR_getR (j := 1) d_Rp_pack_64 sh_0 cl_Rp rfl (by decide) g_196 ?_
    refine zR_iload_n d_Rp_pack_67 rfl rfl ?_
    refine zR_callV (Y' := Y_Packer_writeBlock) (n := 3) (A := [.inr 1, .inr 3, .inl x1]) (b := 6) (S := []) v_Packer_writeBlock g_206 sh_6 cl_Packer rfl d_Rp_pack_68 rfl (Nat.le_of_ble_eq_true rfl) rfl (zR_cons ?_ h)
    rintro r_ m3 ⟨rfl, h⟩
    show zR κ (d + 1) Y_Rp_pack 71 [some (.inr 0), some (.inl x1)] [] m3 Q
    refine zR_iinc (v := 48) d_Rp_pack_71 rfl (by decide) (by decide) ?_
    refine zR_goto (tgt := 44) d_Rp_pack_74 (by decide) ?_
    exact h
theorem w_Rp_unpack_0 {κ : zK} {d : Nat} {mem : zM} {Q : Option zV → zM → Prop}
    (h : zR κ d Y_Unpacker_readAll 0 [some (.inr 41), some (.inr 3), none, none, none, none, none] [] mem (fun r m1 => ∃ y2 : Int32, r = some (.inl y2) ∧ ((¬ y2 = 0 → zR κ d Y_Text_become 0 [some (.inr 1), some (.inr 42)] [] m1 (fun r m3 => r = none ∧ zR κ d Y_Counts_become 0 [some (.inr 5), some (.inr 44)] [] m3 (fun r m4 => r = none ∧ Q (some (.inl (m4 1 1))) m4))) ∧ (y2 = 0 → Q (some (.inl (-1))) m1)))) : zR κ (d + 1) Y_Rp_unpack 0 [some (.inr 0)] [] mem Q := by
  refine zR_aload_n d_Rp_unpack_0 rfl rfl ?_
  refine zR_getR (j := 4) d_Rp_unpack_1 sh_0 cl_Rp rfl (by decide) g_207 ?_
  refine zR_aload_n d_Rp_unpack_4 rfl rfl ?_
  refine zR_getR (j := 1) d_Rp_unpack_5 sh_0 cl_Rp rfl (by decide) g_196 ?_
  refine zR_callV (Y' := Y_Unpacker_readAll) (n := 1) (A := [.inr 3]) (b := 41) (S := []) v_Unpacker_readAll g_208 sh_41 cl_Unpacker rfl d_Rp_unpack_8 rfl (Nat.le_of_ble_eq_true rfl) rfl (zR_cons ?_ h)
  rintro r_ m1 ⟨y2, rfl, h⟩
  show zR κ (d + 1) Y_Rp_unpack 11 [some (.inr 0)] [.inl y2] m1 Q
  refine zR_if_ne (tgt := 16) d_Rp_unpack_11 (by decide) (fun h1 => ?_) (fun h1 => ?_)
  · replace h := h.1 h1
    refine zR_aload_n d_Rp_unpack_16 rfl rfl ?_
    refine zR_getR (j := 0) d_Rp_unpack_17 sh_0 cl_Rp rfl (by decide) g_191 ?_
    refine zR_aload_n d_Rp_unpack_20 rfl rfl ?_
    refine zR_getR (j := 4) d_Rp_unpack_21 sh_0 cl_Rp rfl (by decide) g_207 ?_
    refine zR_getRN (j := 0) d_Rp_unpack_24 sh_41 cl_Unpacker rfl (by decide) n_209 ?_
    refine zR_callV (Y' := Y_Text_become) (n := 1) (A := [.inr 42]) (b := 1) (S := []) v_Text_become g_210 sh_1 cl_Text rfl d_Rp_unpack_27 rfl (Nat.le_of_ble_eq_true rfl) rfl (zR_cons ?_ h)
    rintro r_ m3 ⟨rfl, h⟩
    show zR κ (d + 1) Y_Rp_unpack 30 [some (.inr 0)] [] m3 Q
    refine zR_aload_n d_Rp_unpack_30 rfl rfl ?_
    refine zR_getR (j := 2) d_Rp_unpack_31 sh_0 cl_Rp rfl (by decide) g_202 ?_
    refine zR_aload_n d_Rp_unpack_34 rfl rfl ?_
    refine zR_getR (j := 4) d_Rp_unpack_35 sh_0 cl_Rp rfl (by decide) g_207 ?_
    refine zR_getRN (j := 1) d_Rp_unpack_38 sh_41 cl_Unpacker rfl (by decide) n_211 ?_
    refine zR_callV (Y' := Y_Counts_become) (n := 1) (A := [.inr 44]) (b := 5) (S := []) v_Counts_become g_204 sh_5 cl_Counts rfl d_Rp_unpack_41 rfl (Nat.le_of_ble_eq_true rfl) rfl (zR_cons ?_ h)
    rintro r_ m4 ⟨rfl, h⟩
    show zR κ (d + 1) Y_Rp_unpack 44 [some (.inr 0)] [] m4 Q
    refine zR_aload_n d_Rp_unpack_44 rfl rfl ?_
    refine zR_getR (j := 0) d_Rp_unpack_45 sh_0 cl_Rp rfl (by decide) g_191 ?_
    refine zR_getIN (j := 1) d_Rp_unpack_48 sh_1 cl_Text rfl (by decide) n_194 ?_
    exact zR_ireturn rfl d_Rp_unpack_51 h
  · replace h := h.2 h1
    refine zR_iconst (v := (-1)) d_Rp_unpack_14 (by decide) ?_
    exact zR_ireturn rfl d_Rp_unpack_15 h
theorem w_Rp_size_0 {κ : zK} {d : Nat} {mem : zM} {Q : Option zV → zM → Prop}
    (h : Q (some (.inl (mem 3 1))) mem) : zR κ d Y_Rp_size 0 [some (.inr 0)] [] mem Q := by
  refine zR_aload_n d_Rp_size_0 rfl rfl ?_
  refine zR_getR (j := 1) d_Rp_size_1 sh_0 cl_Rp rfl (by decide) g_196 ?_
  refine zR_getIN (j := 1) d_Rp_size_4 sh_3 cl_BitStream rfl (by decide) n_205 ?_
  exact zR_ireturn rfl d_Rp_size_7 h
theorem w_Rp_byteAt_0 {κ : zK} {d : Nat} {mem : zM} {Q : Option zV → zM → Prop} {x1 : Int32}
    (h : zR κ d Y_BitStream_get 0 [some (.inr 3), some (.inl x1)] [] mem (fun r m1 => ∃ y2 : Int32, r = some (.inl y2) ∧ Q (some (.inl y2)) m1)) : zR κ (d + 1) Y_Rp_byteAt 0 [some (.inr 0), some (.inl x1)] [] mem Q := by
  refine zR_aload_n d_Rp_byteAt_0 rfl rfl ?_
  refine zR_getR (j := 1) d_Rp_byteAt_1 sh_0 cl_Rp rfl (by decide) g_196 ?_
  refine zR_iload_n d_Rp_byteAt_4 rfl rfl ?_
  refine zR_callV (Y' := Y_BitStream_get) (n := 1) (A := [.inl x1]) (b := 3) (S := []) v_BitStream_get g_212 sh_3 cl_BitStream rfl d_Rp_byteAt_5 rfl (Nat.le_of_ble_eq_true rfl) rfl (zR_cons ?_ h)
  rintro r_ m1 ⟨y2, rfl, h⟩
  show zR κ (d + 1) Y_Rp_byteAt 8 [some (.inr 0), some (.inl x1)] [.inl y2] m1 Q
  exact zR_ireturn rfl d_Rp_byteAt_8 h
theorem w_Rp_poke_0 {κ : zK} {d : Nat} {mem : zM} {Q : Option zV → zM → Prop} {x1 x2 : Int32}
    (h : zR κ d Y_BitStream_change 0 [some (.inr 3), some (.inl x1), some (.inl x2)] [] mem (fun r m1 => ∃ y2 : Int32, r = some (.inl y2) ∧ (y2 = 0 ∨ y2 = 1) ∧ Q (some (.inl y2)) m1)) : zR κ (d + 1) Y_Rp_poke 0 [some (.inr 0), some (.inl x1), some (.inl x2)] [] mem Q := by
  refine zR_aload_n d_Rp_poke_0 rfl rfl ?_
  refine zR_getR (j := 1) d_Rp_poke_1 sh_0 cl_Rp rfl (by decide) g_196 ?_
  refine zR_iload_n d_Rp_poke_4 rfl rfl ?_
  refine zR_iload_n d_Rp_poke_5 rfl rfl ?_
  refine zR_callV (Y' := Y_BitStream_change) (n := 2) (A := [.inl x1, .inl x2]) (b := 3) (S := []) v_BitStream_change g_213 sh_3 cl_BitStream rfl d_Rp_poke_6 rfl (Nat.le_of_ble_eq_true rfl) rfl (zR_cons ?_ h)
  rintro r_ m1 ⟨y2, rfl, h⟩
  show zR κ (d + 1) Y_Rp_poke 9 [some (.inr 0), some (.inl x1), some (.inl x2)] [.inl y2] m1 Q
  exact zR_zreturn rfl d_Rp_poke_9 h.1 h.2
theorem w_Rp_append_0 {κ : zK} {d : Nat} {mem : zM} {Q : Option zV → zM → Prop} {x1 : Int32}
    (h : zR κ d Y_BitStream_add 0 [some (.inr 3), some (.inl x1)] [] mem (fun r m1 => ∃ y2 : Int32, r = some (.inl y2) ∧ (y2 = 0 ∨ y2 = 1) ∧ Q (some (.inl y2)) m1)) : zR κ (d + 1) Y_Rp_append 0 [some (.inr 0), some (.inl x1)] [] mem Q := by
  refine zR_aload_n d_Rp_append_0 rfl rfl ?_
  refine zR_getR (j := 1) d_Rp_append_1 sh_0 cl_Rp rfl (by decide) g_196 ?_
  refine zR_iload_n d_Rp_append_4 rfl rfl ?_
  refine zR_callV (Y' := Y_BitStream_add) (n := 1) (A := [.inl x1]) (b := 3) (S := []) v_BitStream_add g_214 sh_3 cl_BitStream rfl d_Rp_append_5 rfl (Nat.le_of_ble_eq_true rfl) rfl (zR_cons ?_ h)
  rintro r_ m1 ⟨y2, rfl, h⟩
  show zR κ (d + 1) Y_Rp_append 8 [some (.inr 0), some (.inl x1)] [.inl y2] m1 Q
  exact zR_zreturn rfl d_Rp_append_8 h.1 h.2
theorem w_Rp_trim_0 {κ : zK} {d : Nat} {mem : zM} {Q : Option zV → zM → Prop} {x1 : Int32}
    (h : zR κ d Y_BitStream_keep 0 [some (.inr 3), some (.inl x1)] [] mem (fun r m1 => ∃ y2 : Int32, r = some (.inl y2) ∧ (y2 = 0 ∨ y2 = 1) ∧ Q (some (.inl y2)) m1)) : zR κ (d + 1) Y_Rp_trim 0 [some (.inr 0), some (.inl x1)] [] mem Q := by
  refine zR_aload_n d_Rp_trim_0 rfl rfl ?_
  refine zR_getR (j := 1) d_Rp_trim_1 sh_0 cl_Rp rfl (by decide) g_196 ?_
  refine zR_iload_n d_Rp_trim_4 rfl rfl ?_
  refine zR_callV (Y' := Y_BitStream_keep) (n := 1) (A := [.inl x1]) (b := 3) (S := []) v_BitStream_keep g_215 sh_3 cl_BitStream rfl d_Rp_trim_5 rfl (Nat.le_of_ble_eq_true rfl) rfl (zR_cons ?_ h)
  rintro r_ m1 ⟨y2, rfl, h⟩
  show zR κ (d + 1) Y_Rp_trim 8 [some (.inr 0), some (.inl x1)] [.inl y2] m1 Q
  exact zR_zreturn rfl d_Rp_trim_8 h.1 h.2
theorem w_Rp_coded_0 {κ : zK} {d : Nat} {mem : zM} {Q : Option zV → zM → Prop}
    (h : Q (some (.inl (mem 5 0))) mem) : zR κ d Y_Rp_coded 0 [some (.inr 0)] [] mem Q := by
  refine zR_aload_n d_Rp_coded_0 rfl rfl ?_
  refine zR_getR (j := 2) d_Rp_coded_1 sh_0 cl_Rp rfl (by decide) g_202 ?_
  refine zR_getIN (j := 0) d_Rp_coded_4 sh_5 cl_Counts rfl (by decide) n_216 ?_
  exact zR_ireturn rfl d_Rp_coded_7 h
theorem w_Rp_copies_0 {κ : zK} {d : Nat} {mem : zM} {Q : Option zV → zM → Prop}
    (h : Q (some (.inl (mem 5 1))) mem) : zR κ d Y_Rp_copies 0 [some (.inr 0)] [] mem Q := by
  refine zR_aload_n d_Rp_copies_0 rfl rfl ?_
  refine zR_getR (j := 2) d_Rp_copies_1 sh_0 cl_Rp rfl (by decide) g_202 ?_
  refine zR_getIN (j := 1) d_Rp_copies_4 sh_5 cl_Counts rfl (by decide) n_217 ?_
  exact zR_ireturn rfl d_Rp_copies_7 h
theorem w_Rp_words_0 {κ : zK} {d : Nat} {mem : zM} {Q : Option zV → zM → Prop}
    (h : Q (some (.inl (mem 5 2))) mem) : zR κ d Y_Rp_words 0 [some (.inr 0)] [] mem Q := by
  refine zR_aload_n d_Rp_words_0 rfl rfl ?_
  refine zR_getR (j := 2) d_Rp_words_1 sh_0 cl_Rp rfl (by decide) g_202 ?_
  refine zR_getIN (j := 2) d_Rp_words_4 sh_5 cl_Counts rfl (by decide) n_218 ?_
  exact zR_ireturn rfl d_Rp_words_7 h
theorem w_Rp_symbols_0 {κ : zK} {d : Nat} {mem : zM} {Q : Option zV → zM → Prop}
    (h : Q (some (.inl (mem 5 3))) mem) : zR κ d Y_Rp_symbols 0 [some (.inr 0)] [] mem Q := by
  refine zR_aload_n d_Rp_symbols_0 rfl rfl ?_
  refine zR_getR (j := 2) d_Rp_symbols_1 sh_0 cl_Rp rfl (by decide) g_202 ?_
  refine zR_getIN (j := 3) d_Rp_symbols_4 sh_5 cl_Counts rfl (by decide) n_219 ?_
  exact zR_ireturn rfl d_Rp_symbols_7 h
theorem w_Rp_isByte_0 {κ : zK} {d : Nat} {mem : zM} {Q : Option zV → zM → Prop} {x0 : Int32}
    (h : ((x0 < 0 → Q (some (.inl 0)) mem) ∧ (¬ x0 < 0 → ((255 < x0 → Q (some (.inl 0)) mem) ∧ (¬ 255 < x0 → Q (some (.inl 1)) mem))))) : zR κ d Y_Rp_isByte 0 [some (.inl x0)] [] mem Q := by
  refine zR_iload_n d_Rp_isByte_0 rfl rfl ?_
  refine zR_if_lt (tgt := 15) d_Rp_isByte_1 (by decide) (fun h1 => ?_) (fun h1 => ?_)
  · replace h := h.1 h1
    refine zR_iconst (v := 0) d_Rp_isByte_15 (by decide) ?_
    exact zR_zreturn rfl d_Rp_isByte_16 (Or.inl rfl) h
  · replace h := h.2 h1
    refine zR_iload_n d_Rp_isByte_4 rfl rfl ?_
    refine zR_sipush (v := 255) d_Rp_isByte_5 (by decide) ?_
    refine zR_icmp_gt (tgt := 15) d_Rp_isByte_8 (by decide) (fun h1 => ?_) (fun h1 => ?_)
    · replace h := h.1 h1
      refine zR_iconst (v := 0) d_Rp_isByte_15 (by decide) ?_
      exact zR_zreturn rfl d_Rp_isByte_16 (Or.inl rfl) h
    · replace h := h.2 h1
      refine zR_iconst (v := 1) d_Rp_isByte_11 (by decide) ?_
      refine zR_goto (tgt := 16) d_Rp_isByte_12 (by decide) ?_
      exact zR_zreturn rfl d_Rp_isByte_16 (Or.inr rfl) h
