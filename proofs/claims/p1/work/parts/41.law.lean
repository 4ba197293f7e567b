/-! pieces of the law -/
theorem w_Law_law_18 {κ : zK} {b n : Nat} {xs : Nat → Int32} {mem : zM} {x3 : Int32}
    (h : ((((nI n) - 3) < x3 → True) ∧ (¬ ((nI n) - 3) < x3 → vp_in x3 n ∧ zL κ b n xs 32 [some (.inr 3000), some (.inr 0), some (.inr 68), some (.inl x3)] [.inl ((xs x3.toNatClampNeg) &&& 15)] mem))) : zL κ b n xs 18 [some (.inr 3000), some (.inr 0), some (.inr 68), some (.inl x3)] [] mem := by
  refine zL_iload_n d_Law_law_18 rfl rfl ?_
  refine zL_aload_n d_Law_law_19 rfl rfl ?_
  refine zL_slen d_Law_law_20 ?_
  refine zL_iconst (v := 3) d_Law_law_21 (by decide) ?_
  refine zL_isub d_Law_law_22 ?_
  refine zL_icmp_gt (tgt := 377) d_Law_law_23 (by decide) (fun h1 => ?_) (fun h1 => ?_)
  · replace h := h.1 h1
    refine zL_iconst (v := 1) d_Law_law_377 (by decide) ?_
    exact zL_ret d_Law_law_378
  · replace h := h.2 h1
    refine zL_aload_n d_Law_law_26 rfl rfl ?_
    refine zL_iload_n d_Law_law_27 rfl rfl ?_
    refine zL_sld d_Law_law_28 h.1 rfl ?_
    replace h := h.2
    refine zL_bipush (v := 15) d_Law_law_29 (by decide) ?_
    refine zL_iand d_Law_law_31 ?_
    exact h
theorem w_Law_law_108 {κ : zK} {b n : Nat} {xs : Nat → Int32} {mem : zM} {x3 : Int32}
    (h : vp_in (x3 + 1) n ∧ zR κ zdd Y_Rp_put 0 [some (.inr 0), some (.inl (xs (x3 + 1).toNatClampNeg))] [] mem (fun r m1 => ∃ y2 : Int32, r = some (.inl y2) ∧ vp_in (x3 + 1) n ∧ zR κ zdd Y_Mo_put 0 [some (.inr 68), some (.inl (xs (x3 + 1).toNatClampNeg))] [] m1 (fun r m3 => ∃ y4 : Int32, r = some (.inl y4) ∧ ((y2 = y4 → zL κ b n xs 371 [some (.inr 3000), some (.inr 0), some (.inr 68), some (.inl x3)] [] m3) ∧ (¬ y2 = y4 → False))))) : zL κ b n xs 108 [some (.inr 3000), some (.inr 0), some (.inr 68), some (.inl x3)] [] mem := by
  refine zL_aload_n d_Law_law_108 rfl rfl ?_
  refine zL_aload_n d_Law_law_109 rfl rfl ?_
  refine zL_iload_n d_Law_law_110 rfl rfl ?_
  refine zL_iconst (v := 1) d_Law_law_111 (by decide) ?_
  refine zL_iadd d_Law_law_112 ?_
  refine zL_sld d_Law_law_113 h.1 rfl ?_
  replace h := h.2
  refine zL_callV (Y' := Y_Rp_put) (na := 1) (A := [.inl (xs (x3 + 1).toNatClampNeg)]) (q := 0) (S := []) v_Rp_put g_292 sh_0 cl_Rp rfl d_Law_law_114 rfl (Nat.le_of_ble_eq_true rfl) rfl (zR_cons ?_ h)
  rintro r_ m1 ⟨y2, rfl, h⟩
  show zL κ b n xs 117 [some (.inr 3000), some (.inr 0), some (.inr 68), some (.inl x3)] [.inl y2] m1
  refine zL_aload_n d_Law_law_117 rfl rfl ?_
  refine zL_aload_n d_Law_law_118 rfl rfl ?_
  refine zL_iload_n d_Law_law_119 rfl rfl ?_
  refine zL_iconst (v := 1) d_Law_law_120 (by decide) ?_
  refine zL_iadd d_Law_law_121 ?_
  refine zL_sld d_Law_law_122 h.1 rfl ?_
  replace h := h.2
  refine zL_callV (Y' := Y_Mo_put) (na := 1) (A := [.inl (xs (x3 + 1).toNatClampNeg)]) (q := 68) (S := [.inl y2]) v_Mo_put g_293 sh_68 cl_Mo rfl d_Law_law_123 rfl (Nat.le_of_ble_eq_true rfl) rfl (zR_cons ?_ h)
  rintro r_ m3 ⟨y4, rfl, h⟩
  show zL κ b n xs 126 [some (.inr 3000), some (.inr 0), some (.inr 68), some (.inl x3)] [.inl y4, .inl y2] m3
  refine zL_icmp_eq (tgt := 371) d_Law_law_126 (by decide) (fun h1 => ?_) (fun h1 => ?_)
  · replace h := h.1 h1
    exact h
  · replace h := h.2 h1
    refine zL_iconst (v := 0) d_Law_law_129 (by decide) ?_
    exact h.elim
theorem w_Law_law_131 {κ : zK} {b n : Nat} {xs : Nat → Int32} {mem : zM} {x3 : Int32}
    (h : zR κ zdd Y_Rp_clear 0 [some (.inr 0)] [] mem (fun r m1 => r = none ∧ zR κ zdd Y_Mo_clear 0 [some (.inr 68)] [] m1 (fun r m2 => r = none ∧ zL κ b n xs 371 [some (.inr 3000), some (.inr 0), some (.inr 68), some (.inl x3)] [] m2))) : zL κ b n xs 131 [some (.inr 3000), some (.inr 0), some (.inr 68), some (.inl x3)] [] mem := by
  refine zL_aload_n d_Law_law_131 rfl rfl ?_
  refine zL_callV (Y' := Y_Rp_clear) (na := 0) (A := []) (q := 0) (S := []) v_Rp_clear g_294 sh_0 cl_Rp rfl d_Law_law_132 rfl (Nat.le_of_ble_eq_true rfl) rfl (zR_cons ?_ h)
  rintro r_ m1 ⟨rfl, h⟩
  show zL κ b n xs 135 [some (.inr 3000), some (.inr 0), some (.inr 68), some (.inl x3)] [] m1
  refine zL_aload_n d_Law_law_135 rfl rfl ?_
  refine zL_callV (Y' := Y_Mo_clear) (na := 0) (A := []) (q := 68) (S := []) v_Mo_clear g_295 sh_68 cl_Mo rfl d_Law_law_136 rfl (Nat.le_of_ble_eq_true rfl) rfl (zR_cons ?_ h)
  rintro r_ m2 ⟨rfl, h⟩
  show zL κ b n xs 139 [some (.inr 3000), some (.inr 0), some (.inr 68), some (.inl x3)] [] m2
  refine zL_goto (tgt := 371) d_Law_law_139 (by decide) ?_
  exact h
theorem w_Law_law_142 {κ : zK} {b n : Nat} {xs : Nat → Int32} {mem : zM} {x3 : Int32}
    (h : zR κ zdd Y_Rp_length 0 [some (.inr 0)] [] mem (fun r m1 => ∃ y2 : Int32, r = some (.inl y2) ∧ zR κ zdd Y_Mo_length 0 [some (.inr 68)] [] m1 (fun r m3 => ∃ y4 : Int32, r = some (.inl y4) ∧ ((y2 = y4 → zL κ b n xs 371 [some (.inr 3000), some (.inr 0), some (.inr 68), some (.inl x3)] [] m3) ∧ (¬ y2 = y4 → False))))) : zL κ b n xs 142 [some (.inr 3000), some (.inr 0), some (.inr 68), some (.inl x3)] [] mem := by
  refine zL_aload_n d_Law_law_142 rfl rfl ?_
  refine zL_callV (Y' := Y_Rp_length) (na := 0) (A := []) (q := 0) (S := []) v_Rp_length g_296 sh_0 cl_Rp rfl d_Law_law_143 rfl (Nat.le_of_ble_eq_true rfl) rfl (zR_cons ?_ h)
  rintro r_ m1 ⟨y2, rfl, h⟩
  show zL κ b n xs 146 [some (.inr 3000), some (.inr 0), some (.inr 68), some (.inl x3)] [.inl y2] m1
  refine zL_aload_n d_Law_law_146 rfl rfl ?_
  refine zL_callV (Y' := Y_Mo_length) (na := 0) (A := []) (q := 68) (S := [.inl y2]) v_Mo_length g_297 sh_68 cl_Mo rfl d_Law_law_147 rfl (Nat.le_of_ble_eq_true rfl) rfl (zR_cons ?_ h)
  rintro r_ m3 ⟨y4, rfl, h⟩
  show zL κ b n xs 150 [some (.inr 3000), some (.inr 0), some (.inr 68), some (.inl x3)] [.inl y4, .inl y2] m3
  refine zL_icmp_eq (tgt := 371) d_Law_law_150 (by decide) (fun h1 => ?_) (fun h1 => ?_)
  · replace h := h.1 h1
    exact h
  · replace h := h.2 h1
    refine zL_iconst (v := 0) d_Law_law_153 (by decide) ?_
    exact h.elim
theorem w_Law_law_155 {κ : zK} {b n : Nat} {xs : Nat → Int32} {mem : zM} {x3 : Int32}
    (h : vp_in (x3 + 1) n ∧ zR κ zdd Y_Rp_at 0 [some (.inr 0), some (.inl (xs (x3 + 1).toNatClampNeg))] [] mem (fun r m1 => ∃ y2 : Int32, r = some (.inl y2) ∧ vp_in (x3 + 1) n ∧ zR κ zdd Y_Mo_at 0 [some (.inr 68), some (.inl (xs (x3 + 1).toNatClampNeg))] [] m1 (fun r m3 => ∃ y4 : Int32, r = some (.inl y4) ∧ ((y2 = y4 → zL κ b n xs 371 [some (.inr 3000), some (.inr 0), some (.inr 68), some (.inl x3)] [] m3) ∧ (¬ y2 = y4 → False))))) : zL κ b n xs 155 [some (.inr 3000), some (.inr 0), some (.inr 68), some (.inl x3)] [] mem := by
  refine zL_aload_n d_Law_law_155 rfl rfl ?_
  refine zL_aload_n d_Law_law_156 rfl rfl ?_
  refine zL_iload_n d_Law_law_157 rfl rfl ?_
  refine zL_iconst (v := 1) d_Law_law_158 (by decide) ?_
  refine zL_iadd d_Law_law_159 ?_
  refine zL_sld d_Law_law_160 h.1 rfl ?_
  replace h := h.2
  refine zL_callV (Y' := Y_Rp_at) (na := 1) (A := [.inl (xs (x3 + 1).toNatClampNeg)]) (q := 0) (S := []) v_Rp_at g_298 sh_0 cl_Rp rfl d_Law_law_161 rfl (Nat.le_of_ble_eq_true rfl) rfl (zR_cons ?_ h)
  rintro r_ m1 ⟨y2, rfl, h⟩
  show zL κ b n xs 164 [some (.inr 3000), some (.inr 0), some (.inr 68), some (.inl x3)] [.inl y2] m1
  refine zL_aload_n d_Law_law_164 rfl rfl ?_
  refine zL_aload_n d_Law_law_165 rfl rfl ?_
  refine zL_iload_n d_Law_law_166 rfl rfl ?_
  refine zL_iconst (v := 1) d_Law_law_167 (by decide) ?_
  refine zL_iadd d_Law_law_168 ?_
  refine zL_sld d_Law_law_169 h.1 rfl ?_
  replace h := h.2
  refine zL_callV (Y' := Y_Mo_at) (na := 1) (A := [.inl (xs (x3 + 1).toNatClampNeg)]) (q := 68) (S := [.inl y2]) v_Mo_at g_299 sh_68 cl_Mo rfl d_Law_law_170 rfl (Nat.le_of_ble_eq_true rfl) rfl (zR_cons ?_ h)
  rintro r_ m3 ⟨y4, rfl, h⟩
  show zL κ b n xs 173 [some (.inr 3000), some (.inr 0), some (.inr 68), some (.inl x3)] [.inl y4, .inl y2] m3
  refine zL_icmp_eq (tgt := 371) d_Law_law_173 (by decide) (fun h1 => ?_) (fun h1 => ?_)
  · replace h := h.1 h1
    exact h
  · replace h := h.2 h1
    refine zL_iconst (v := 0) d_Law_law_176 (by decide) ?_
    exact h.elim
theorem w_Law_law_178 {κ : zK} {b n : Nat} {xs : Nat → Int32} {mem : zM} {x3 : Int32}
    (h : zR κ zdd Y_Rp_pack 0 [some (.inr 0), none] [] mem (fun r m1 => ∃ y2 : Int32, r = some (.inl y2) ∧ zR κ zdd Y_Mo_pack 0 [some (.inr 68), none, none] [] m1 (fun r m3 => ∃ y4 : Int32, r = some (.inl y4) ∧ ((y2 = y4 → zL κ b n xs 371 [some (.inr 3000), some (.inr 0), some (.inr 68), some (.inl x3)] [] m3) ∧ (¬ y2 = y4 → False))))) : zL κ b n xs 178 [some (.inr 3000), some (.inr 0), some (.inr 68), some (.inl x3)] [] mem := by
  refine zL_aload_n d_Law_law_178 rfl rfl ?_
  refine zL_callV (Y' := Y_Rp_pack) (na := 0) (A := []) (q := 0) (S := []) v_Rp_pack g_300 sh_0 cl_Rp rfl d_Law_law_179 rfl (Nat.le_of_ble_eq_true rfl) rfl (zR_cons ?_ h)
  rintro r_ m1 ⟨y2, rfl, h⟩
  show zL κ b n xs 182 [some (.inr 3000), some (.inr 0), some (.inr 68), some (.inl x3)] [.inl y2] m1
  refine zL_aload_n d_Law_law_182 rfl rfl ?_
  refine zL_callV (Y' := Y_Mo_pack) (na := 0) (A := []) (q := 68) (S := [.inl y2]) v_Mo_pack g_301 sh_68 cl_Mo rfl d_Law_law_183 rfl (Nat.le_of_ble_eq_true rfl) rfl (zR_cons ?_ h)
  rintro r_ m3 ⟨y4, rfl, h⟩
  show zL κ b n xs 186 [some (.inr 3000), some (.inr 0), some (.inr 68), some (.inl x3)] [.inl y4, .inl y2] m3
  refine zL_icmp_eq (tgt := 371) d_Law_law_186 (by decide) (fun h1 => ?_) (fun h1 => ?_)
  · replace h := h.1 h1
    exact h
  · replace h := h.2 h1
    refine zL_iconst (v := 0) d_Law_law_189 (by decide) ?_
    exact h.elim
theorem w_Law_law_191 {κ : zK} {b n : Nat} {xs : Nat → Int32} {mem : zM} {x3 : Int32}
    (h : zR κ zdd Y_Rp_unpack 0 [some (.inr 0)] [] mem (fun r m1 => ∃ y2 : Int32, r = some (.inl y2) ∧ zR κ zdd Y_Mo_unpack 0 [some (.inr 68), none, none, none, none, none, none] [] m1 (fun r m3 => ∃ y4 : Int32, r = some (.inl y4) ∧ ((y2 = y4 → zL κ b n xs 371 [some (.inr 3000), some (.inr 0), some (.inr 68), some (.inl x3)] [] m3) ∧ (¬ y2 = y4 → False))))) : zL κ b n xs 191 [some (.inr 3000), some (.inr 0), some (.inr 68), some (.inl x3)] [] mem := by
  refine zL_aload_n d_Law_law_191 rfl rfl ?_
  refine zL_callV (Y' := Y_Rp_unpack) (na := 0) (A := []) (q := 0) (S := []) v_Rp_unpack g_302 sh_0 cl_Rp rfl d_Law_law_192 rfl (Nat.le_of_ble_eq_true rfl) rfl (zR_cons ?_ h)
  rintro r_ m1 ⟨y2, rfl, h⟩
  show zL κ b n xs 195 [some (.inr 3000), some (.inr 0), some (.inr 68), some (.inl x3)] [.inl y2] m1
  refine zL_aload_n d_Law_law_195 rfl rfl ?_
  refine zL_callV (Y' := Y_Mo_unpack) (na := 0) (A := []) (q := 68) (S := [.inl y2]) v_Mo_unpack g_303 sh_68 cl_Mo rfl d_Law_law_196 rfl (Nat.le_of_ble_eq_true rfl) rfl (zR_cons ?_ h)
  rintro r_ m3 ⟨y4, rfl, h⟩
  show zL κ b n xs 199 [some (.inr 3000), some (.inr 0), some (.inr 68), some (.inl x3)] [.inl y4, .inl y2] m3
  refine zL_icmp_eq (tgt := 371) d_Law_law_199 (by decide) (fun h1 => ?_) (fun h1 => ?_)
  · replace h := h.1 h1
    exact h
  · replace h := h.2 h1
    refine zL_iconst (v := 0) d_Law_law_202 (by decide) ?_
    exact h.elim
theorem w_Law_law_204 {κ : zK} {b n : Nat} {xs : Nat → Int32} {mem : zM} {x3 : Int32}
    (h : zR κ zdd Y_Rp_size 0 [some (.inr 0)] [] mem (fun r m1 => ∃ y2 : Int32, r = some (.inl y2) ∧ zR κ zdd Y_Mo_size 0 [some (.inr 68)] [] m1 (fun r m3 => ∃ y4 : Int32, r = some (.inl y4) ∧ ((y2 = y4 → zL κ b n xs 371 [some (.inr 3000), some (.inr 0), some (.inr 68), some (.inl x3)] [] m3) ∧ (¬ y2 = y4 → False))))) : zL κ b n xs 204 [some (.inr 3000), some (.inr 0), some (.inr 68), some (.inl x3)] [] mem := by
  refine zL_aload_n d_Law_law_204 rfl rfl ?_
  refine zL_callV (Y' := Y_Rp_size) (na := 0) (A := []) (q := 0) (S := []) v_Rp_size g_304 sh_0 cl_Rp rfl d_Law_law_205 rfl (Nat.le_of_ble_eq_true rfl) rfl (zR_cons ?_ h)
  rintro r_ m1 ⟨y2, rfl, h⟩
  show zL κ b n xs 208 [some (.inr 3000), some (.inr 0), some (.inr 68), some (.inl x3)] [.inl y2] m1
  refine zL_aload_n d_Law_law_208 rfl rfl ?_
  refine zL_callV (Y' := Y_Mo_size) (na := 0) (A := []) (q := 68) (S := [.inl y2]) v_Mo_size g_305 sh_68 cl_Mo rfl d_Law_law_209 rfl (Nat.le_of_ble_eq_true rfl) rfl (zR_cons ?_ h)
  rintro r_ m3 ⟨y4, rfl, h⟩
  show zL κ b n xs 212 [some (.inr 3000), some (.inr 0), some (.inr 68), some (.inl x3)] [.inl y4, .inl y2] m3
  refine zL_icmp_eq (tgt := 371) d_Law_law_212 (by decide) (fun h1 => ?_) (fun h1 => ?_)
  · replace h := h.1 h1
    exact h
  · replace h := h.2 h1
    refine zL_iconst (v := 0) d_Law_law_215 (by decide) ?_
    exact h.elim
theorem w_Law_law_217 {κ : zK} {b n : Nat} {xs : Nat → Int32} {mem : zM} {x3 : Int32}
    (h : vp_in (x3 + 1) n ∧ zR κ zdd Y_Rp_byteAt 0 [some (.inr 0), some (.inl (xs (x3 + 1).toNatClampNeg))] [] mem (fun r m1 => ∃ y2 : Int32, r = some (.inl y2) ∧ vp_in (x3 + 1) n ∧ zR κ zdd Y_Mo_byteAt 0 [some (.inr 68), some (.inl (xs (x3 + 1).toNatClampNeg))] [] m1 (fun r m3 => ∃ y4 : Int32, r = some (.inl y4) ∧ ((y2 = y4 → zL κ b n xs 371 [some (.inr 3000), some (.inr 0), some (.inr 68), some (.inl x3)] [] m3) ∧ (¬ y2 = y4 → False))))) : zL κ b n xs 217 [some (.inr 3000), some (.inr 0), some (.inr 68), some (.inl x3)] [] mem := by
  refine zL_aload_n d_Law_law_217 rfl rfl ?_
  refine zL_aload_n d_Law_law_218 rfl rfl ?_
  refine zL_iload_n d_Law_law_219 rfl rfl ?_
  refine zL_iconst (v := 1) d_Law_law_220 (by decide) ?_
  refine zL_iadd d_Law_law_221 ?_
  refine zL_sld d_Law_law_222 h.1 rfl ?_
  replace h := h.2
  refine zL_callV (Y' := Y_Rp_byteAt) (na := 1) (A := [.inl (xs (x3 + 1).toNatClampNeg)]) (q := 0) (S := []) v_Rp_byteAt g_306 sh_0 cl_Rp rfl d_Law_law_223 rfl (Nat.le_of_ble_eq_true rfl) rfl (zR_cons ?_ h)
  rintro r_ m1 ⟨y2, rfl, h⟩
  show zL κ b n xs 226 [some (.inr 3000), some (.inr 0), some (.inr 68), some (.inl x3)] [.inl y2] m1
  refine zL_aload_n d_Law_law_226 rfl rfl ?_
  refine zL_aload_n d_Law_law_227 rfl rfl ?_
  refine zL_iload_n d_Law_law_228 rfl rfl ?_
  refine zL_iconst (v := 1) d_Law_law_229 (by decide) ?_
  refine zL_iadd d_Law_law_230 ?_
  refine zL_sld d_Law_law_231 h.1 rfl ?_
  replace h := h.2
  refine zL_callV (Y' := Y_Mo_byteAt) (na := 1) (A := [.inl (xs (x3 + 1).toNatClampNeg)]) (q := 68) (S := [.inl y2]) v_Mo_byteAt g_307 sh_68 cl_Mo rfl d_Law_law_232 rfl (Nat.le_of_ble_eq_true rfl) rfl (zR_cons ?_ h)
  rintro r_ m3 ⟨y4, rfl, h⟩
  show zL κ b n xs 235 [some (.inr 3000), some (.inr 0), some (.inr 68), some (.inl x3)] [.inl y4, .inl y2] m3
  refine zL_icmp_eq (tgt := 371) d_Law_law_235 (by decide) (fun h1 => ?_) (fun h1 => ?_)
  · replace h := h.1 h1
    exact h
  · replace h := h.2 h1
    refine zL_iconst (v := 0) d_Law_law_238 (by decide) ?_
    exact h.elim
theorem w_Law_law_240 {κ : zK} {b n : Nat} {xs : Nat → Int32} {mem : zM} {x3 : Int32}
    (h : vp_in (x3 + 1) n ∧ vp_in (x3 + 2) n ∧ zR κ zdd Y_Rp_poke 0 [some (.inr 0), some (.inl (xs (x3 + 1).toNatClampNeg)), some (.inl (xs (x3 + 2).toNatClampNeg))] [] mem (fun r m1 => ∃ y2 : Int32, r = some (.inl y2) ∧ vp_in (x3 + 1) n ∧ vp_in (x3 + 2) n ∧ zR κ zdd Y_Mo_poke 0 [some (.inr 68), some (.inl (xs (x3 + 1).toNatClampNeg)), some (.inl (xs (x3 + 2).toNatClampNeg))] [] m1 (fun r m3 => ∃ y4 : Int32, r = some (.inl y4) ∧ ((y2 = y4 → zL κ b n xs 371 [some (.inr 3000), some (.inr 0), some (.inr 68), some (.inl x3)] [] m3) ∧ (¬ y2 = y4 → False))))) : zL κ b n xs 240 [some (.inr 3000), some (.inr 0), some (.inr 68), some (.inl x3)] [] mem := by
  refine zL_aload_n d_Law_law_240 rfl rfl ?_
  refine zL_aload_n d_Law_law_241 rfl rfl ?_
  refine zL_iload_n d_Law_law_242 rfl rfl ?_
  refine zL_iconst (v := 1) d_Law_law_243 (by decide) ?_
  refine zL_iadd d_Law_law_244 ?_
  refine zL_sld d_Law_law_245 h.1 rfl ?_
  replace h := h.2
  refine zL_aload_n d_Law_law_246 rfl rfl ?_
  refine zL_iload_n d_Law_law_247 rfl rfl ?_
  refine zL_iconst (v := 2) d_Law_law_248 (by decide) ?_
  refine zL_iadd d_Law_law_249 ?_
  refine zL_sld d_Law_law_250 h.1 rfl ?_
  replace h := h.2
  refine zL_callV (Y' := Y_Rp_poke) (na := 2) (A := [.inl (xs (x3 + 1).toNatClampNeg), .inl (xs (x3 + 2).toNatClampNeg)]) (q := 0) (S := []) v_Rp_poke g_308 sh_0 cl_Rp rfl d_Law_law_251 rfl (Nat.le_of_ble_eq_true rfl) rfl (zR_cons ?_ h)
  rintro r_ m1 ⟨y2, rfl, h⟩
  show zL κ b n xs 254 [some (.inr 3000), some (.inr 0), some (.inr 68), some (.inl x3)] [.inl y2] m1
  refine zL_aload_n d_Law_law_254 rfl rfl ?_
  refine zL_aload_n d_Law_law_255 rfl rfl ?_
  refine zL_iload_n d_Law_law_256 rfl rfl ?_
  refine zL_iconst (v := 1) d_Law_law_257 (by decide) ?_
  refine zL_iadd d_Law_law_258 ?_
  refine zL_sld d_Law_law_259 h.1 rfl ?_
  replace h := h.2
  refine zL_aload_n d_Law_law_260 rfl rfl ?_
  refine zL_iload_n d_Law_law_261 rfl rfl ?_
  refine zL_iconst (v := 2) d_Law_law_262 (by decide) ?_
  refine zL_iadd d_Law_law_263 ?_
  refine zL_sld d_Law_law_264 h.1 rfl ?_
  replace h := h.2
  refine zL_callV (Y' := Y_Mo_poke) (na := 2) (A := [.inl (xs (x3 + 1).toNatClampNeg), .inl (xs (x3 + 2).toNatClampNeg)]) (q := 68) (S := [.inl y2]) v_Mo_poke g_309 sh_68 cl_Mo rfl d_Law_law_265 rfl (Nat.le_of_ble_eq_true rfl) rfl (zR_cons ?_ h)
  rintro r_ m3 ⟨y4, rfl, h⟩
  show zL κ b n xs 268 [some (.inr 3000), some (.inr 0), some (.inr 68), some (.inl x3)] [.inl y4, .inl y2] m3
  refine zL_icmp_eq (tgt := 371) d_Law_law_268 (by decide) (fun h1 => ?_) (fun h1 => ?_)
  · replace h := h.1 h1
    exact h
  · replace h := h.2 h1
    refine zL_iconst (v := 0) d_Law_law_271 (by decide) ?_
    exact h.elim
theorem w_Law_law_273 {κ : zK} {b n : Nat} {xs : Nat → Int32} {mem : zM} {x3 : Int32}
    (h : vp_in (x3 + 1) n ∧ zR κ zdd Y_Rp_append 0 [some (.inr 0), some (.inl (xs (x3 + 1).toNatClampNeg))] [] mem (fun r m1 => ∃ y2 : Int32, r = some (.inl y2) ∧ vp_in (x3 + 1) n ∧ zR κ zdd Y_Mo_append 0 [some (.inr 68), some (.inl (xs (x3 + 1).toNatClampNeg))] [] m1 (fun r m3 => ∃ y4 : Int32, r = some (.inl y4) ∧ ((y2 = y4 → zL κ b n xs 371 [some (.inr 3000), some (.inr 0), some (.inr 68), some (.inl x3)] [] m3) ∧ (¬ y2 = y4 → False))))) : zL κ b n xs 273 [some (.inr 3000), some (.inr 0), some (.inr 68), some (.inl x3)] [] mem := by
  refine zL_aload_n d_Law_law_273 rfl rfl ?_
  refine zL_aload_n d_Law_law_274 rfl rfl ?_
  refine zL_iload_n d_Law_law_275 rfl rfl ?_
  refine zL_iconst (v := 1) d_Law_law_276 (by decide) ?_
  refine zL_iadd d_Law_law_277 ?_
  refine zL_sld d_Law_law_278 h.1 rfl ?_
  replace h := h.2
  refine zL_callV (Y' := Y_Rp_append) (na := 1) (A := [.inl (xs (x3 + 1).toNatClampNeg)]) (q := 0) (S := []) v_Rp_append g_310 sh_0 cl_Rp rfl d_Law_law_279 rfl (Nat.le_of_ble_eq_true rfl) rfl (zR_cons ?_ h)
  rintro r_ m1 ⟨y2, rfl, h⟩
  show zL κ b n xs 282 [some (.inr 3000), some (.inr 0), some (.inr 68), some (.inl x3)] [.inl y2] m1
  refine zL_aload_n d_Law_law_282 rfl rfl ?_
  refine zL_aload_n d_Law_law_283 rfl rfl ?_
  refine zL_iload_n d_Law_law_284 rfl rfl ?_
  refine zL_iconst (v := 1) d_Law_law_285 (by decide) ?_
  refine zL_iadd d_Law_law_286 ?_
  refine zL_sld d_Law_law_287 h.1 rfl ?_
  replace h := h.2
  refine zL_callV (Y' := Y_Mo_append) (na := 1) (A := [.inl (xs (x3 + 1).toNatClampNeg)]) (q := 68) (S := [.inl y2]) v_Mo_append g_311 sh_68 cl_Mo rfl d_Law_law_288 rfl (Nat.le_of_ble_eq_true rfl) rfl (zR_cons ?_ h)
  rintro r_ m3 ⟨y4, rfl, h⟩
  show zL κ b n xs 291 [some (.inr 3000), some (.inr 0), some (.inr 68), some (.inl x3)] [.inl y4, .inl y2] m3
  refine zL_icmp_eq (tgt := 371) d_Law_law_291 (by decide) (fun h1 => ?_) (fun h1 => ?_)
  · replace h := h.1 h1
    exact h
  · replace h := h.2 h1
    refine zL_iconst (v := 0) d_Law_law_294 (by decide) ?_
    exact h.elim
theorem w_Law_law_296 {κ : zK} {b n : Nat} {xs : Nat → Int32} {mem : zM} {x3 : Int32}
    (h : vp_in (x3 + 1) n ∧ zR κ zdd Y_Rp_trim 0 [some (.inr 0), some (.inl (xs (x3 + 1).toNatClampNeg))] [] mem (fun r m1 => ∃ y2 : Int32, r = some (.inl y2) ∧ vp_in (x3 + 1) n ∧ zR κ zdd Y_Mo_trim 0 [some (.inr 68), some (.inl (xs (x3 + 1).toNatClampNeg))] [] m1 (fun r m3 => ∃ y4 : Int32, r = some (.inl y4) ∧ ((y2 = y4 → zL κ b n xs 371 [some (.inr 3000), some (.inr 0), some (.inr 68), some (.inl x3)] [] m3) ∧ (¬ y2 = y4 → False))))) : zL κ b n xs 296 [some (.inr 3000), some (.inr 0), some (.inr 68), some (.inl x3)] [] mem := by
  refine zL_aload_n d_Law_law_296 rfl rfl ?_
  refine zL_aload_n d_Law_law_297 rfl rfl ?_
  refine zL_iload_n d_Law_law_298 rfl rfl ?_
  refine zL_iconst (v := 1) d_Law_law_299 (by decide) ?_
  refine zL_iadd d_Law_law_300 ?_
  refine zL_sld d_Law_law_301 h.1 rfl ?_
  replace h := h.2
  refine zL_callV (Y' := Y_Rp_trim) (na := 1) (A := [.inl (xs (x3 + 1).toNatClampNeg)]) (q := 0) (S := []) v_Rp_trim g_312 sh_0 cl_Rp rfl d_Law_law_302 rfl (Nat.le_of_ble_eq_true rfl) rfl (zR_cons ?_ h)
  rintro r_ m1 ⟨y2, rfl, h⟩
  show zL κ b n xs 305 [some (.inr 3000), some (.inr 0), some (.inr 68), some (.inl x3)] [.inl y2] m1
  refine zL_aload_n d_Law_law_305 rfl rfl ?_
  refine zL_aload_n d_Law_law_306 rfl rfl ?_
  refine zL_iload_n d_Law_law_307 rfl rfl ?_
  refine zL_iconst (v := 1) d_Law_law_308 (by decide) ?_
  refine zL_iadd d_Law_law_309 ?_
  refine zL_sld d_Law_law_310 h.1 rfl ?_
  replace h := h.2
  refine zL_callV (Y' := Y_Mo_trim) (na := 1) (A := [.inl (xs (x3 + 1).toNatClampNeg)]) (q := 68) (S := [.inl y2]) v_Mo_trim g_313 sh_68 cl_Mo rfl d_Law_law_311 rfl (Nat.le_of_ble_eq_true rfl) rfl (zR_cons ?_ h)
  rintro r_ m3 ⟨y4, rfl, h⟩
  show zL κ b n xs 314 [some (.inr 3000), some (.inr 0), some (.inr 68), some (.inl x3)] [.inl y4, .inl y2] m3
  refine zL_icmp_eq (tgt := 371) d_Law_law_314 (by decide) (fun h1 => ?_) (fun h1 => ?_)
  · replace h := h.1 h1
    exact h
  · replace h := h.2 h1
    refine zL_iconst (v := 0) d_Law_law_317 (by decide) ?_
    exact h.elim
theorem w_Law_law_319 {κ : zK} {b n : Nat} {xs : Nat → Int32} {mem : zM} {x3 : Int32}
    (h : zR κ zdd Y_Rp_coded 0 [some (.inr 0)] [] mem (fun r m1 => ∃ y2 : Int32, r = some (.inl y2) ∧ zR κ zdd Y_Mo_coded 0 [some (.inr 68)] [] m1 (fun r m3 => ∃ y4 : Int32, r = some (.inl y4) ∧ ((y2 = y4 → zL κ b n xs 371 [some (.inr 3000), some (.inr 0), some (.inr 68), some (.inl x3)] [] m3) ∧ (¬ y2 = y4 → False))))) : zL κ b n xs 319 [some (.inr 3000), some (.inr 0), some (.inr 68), some (.inl x3)] [] mem := by
  refine zL_aload_n d_Law_law_319 rfl rfl ?_
  refine zL_callV (Y' := Y_Rp_coded) (na := 0) (A := []) (q := 0) (S := []) v_Rp_coded g_314 sh_0 cl_Rp rfl d_Law_law_320 rfl (Nat.le_of_ble_eq_true rfl) rfl (zR_cons ?_ h)
  rintro r_ m1 ⟨y2, rfl, h⟩
  show zL κ b n xs 323 [some (.inr 3000), some (.inr 0), some (.inr 68), some (.inl x3)] [.inl y2] m1
  refine zL_aload_n d_Law_law_323 rfl rfl ?_
  refine zL_callV (Y' := Y_Mo_coded) (na := 0) (A := []) (q := 68) (S := [.inl y2]) v_Mo_coded g_315 sh_68 cl_Mo rfl d_Law_law_324 rfl (Nat.le_of_ble_eq_true rfl) rfl (zR_cons ?_ h)
  rintro r_ m3 ⟨y4, rfl, h⟩
  show zL κ b n xs 327 [some (.inr 3000), some (.inr 0), some (.inr 68), some (.inl x3)] [.inl y4, .inl y2] m3
  refine zL_icmp_eq (tgt := 371) d_Law_law_327 (by decide) (fun h1 => ?_) (fun h1 => ?_)
  · replace h := h.1 h1
    exact h
  · replace h := h.2 h1
    refine zL_iconst (v := 0) d_Law_law_330 (by decide) ?_
    exact h.elim
theorem w_Law_law_332 {κ : zK} {b n : Nat} {xs : Nat → Int32} {mem : zM} {x3 : Int32}
    (h : zR κ zdd Y_Rp_copies 0 [some (.inr 0)] [] mem (fun r m1 => ∃ y2 : Int32, r = some (.inl y2) ∧ zR κ zdd Y_Mo_copies 0 [some (.inr 68)] [] m1 (fun r m3 => ∃ y4 : Int32, r = some (.inl y4) ∧ ((y2 = y4 → zL κ b n xs 371 [some (.inr 3000), some (.inr 0), some (.inr 68), some (.inl x3)] [] m3) ∧ (¬ y2 = y4 → False))))) : zL κ b n xs 332 [some (.inr 3000), some (.inr 0), some (.inr 68), some (.inl x3)] [] mem := by
  refine zL_aload_n d_Law_law_332 rfl rfl ?_
  refine zL_callV (Y' := Y_Rp_copies) (na := 0) (A := []) (q := 0) (S := []) v_Rp_copies g_316 sh_0 cl_Rp rfl d_Law_law_333 rfl (Nat.le_of_ble_eq_true rfl) rfl (zR_cons ?_ h)
  rintro r_ m1 ⟨y2, rfl, h⟩
  show zL κ b n xs 336 [some (.inr 3000), some (.inr 0), some (.inr 68), some (.inl x3)] [.inl y2] m1
  refine zL_aload_n d_Law_law_336 rfl rfl ?_
  refine zL_callV (Y' := Y_Mo_copies) (na := 0) (A := []) (q := 68) (S := [.inl y2]) v_Mo_copies g_317 sh_68 cl_Mo rfl d_Law_law_337 rfl (Nat.le_of_ble_eq_true rfl) rfl (zR_cons ?_ h)
  rintro r_ m3 ⟨y4, rfl, h⟩
  show zL κ b n xs 340 [some (.inr 3000), some (.inr 0), some (.inr 68), some (.inl x3)] [.inl y4, .inl y2] m3
  refine zL_icmp_eq (tgt := 371) d_Law_law_340 (by decide) (fun h1 => ?_) (fun h1 => ?_)
  · replace h := h.1 h1
    exact h
  · replace h := h.2 h1
    refine zL_iconst (v := 0) d_Law_law_343 (by decide) ?_
    exact h.elim
theorem w_Law_law_345 {κ : zK} {b n : Nat} {xs : Nat → Int32} {mem : zM} {x3 : Int32}
    (h : zR κ zdd Y_Rp_words 0 [some (.inr 0)] [] mem (fun r m1 => ∃ y2 : Int32, r = some (.inl y2) ∧ zR κ zdd Y_Mo_words 0 [some (.inr 68)] [] m1 (fun r m3 => ∃ y4 : Int32, r = some (.inl y4) ∧ ((y2 = y4 → zL κ b n xs 371 [some (.inr 3000), some (.inr 0), some (.inr 68), some (.inl x3)] [] m3) ∧ (¬ y2 = y4 → False))))) : zL κ b n xs 345 [some (.inr 3000), some (.inr 0), some (.inr 68), some (.inl x3)] [] mem := by
  refine zL_aload_n d_Law_law_345 rfl rfl ?_
  refine zL_callV (Y' := Y_Rp_words) (na := 0) (A := []) (q := 0) (S := []) v_Rp_words g_318 sh_0 cl_Rp rfl d_Law_law_346 rfl (Nat.le_of_ble_eq_true rfl) rfl (zR_cons ?_ h)
  rintro r_ m1 ⟨y2, rfl, h⟩
  show zL κ b n xs 349 [some (.inr 3000), some (.inr 0), some (.inr 68), some (.inl x3)] [.inl y2] m1
  refine zL_aload_n d_Law_law_349 rfl rfl ?_
  refine zL_callV (Y' := Y_Mo_words) (na := 0) (A := []) (q := 68) (S := [.inl y2]) v_Mo_words g_319 sh_68 cl_Mo rfl d_Law_law_350 rfl (Nat.le_of_ble_eq_true rfl) rfl (zR_cons ?_ h)
  rintro r_ m3 ⟨y4, rfl, h⟩
  show zL κ b n xs 353 [some (.inr 3000), some (.inr 0), some (.inr 68), some (.inl x3)] [.inl y4, .inl y2] m3
  refine zL_icmp_eq (tgt := 371) d_Law_law_353 (by decide) (fun h1 => ?_) (fun h1 => ?_)
  · replace h := h.1 h1
    exact h
  · replace h := h.2 h1
    refine zL_iconst (v := 0) d_Law_law_356 (by decide) ?_
    exact h.elim
theorem w_Law_law_358 {κ : zK} {b n : Nat} {xs : Nat → Int32} {mem : zM} {x3 : Int32}
    (h : zR κ zdd Y_Rp_symbols 0 [some (.inr 0)] [] mem (fun r m1 => ∃ y2 : Int32, r = some (.inl y2) ∧ zR κ zdd Y_Mo_symbols 0 [some (.inr 68)] [] m1 (fun r m3 => ∃ y4 : Int32, r = some (.inl y4) ∧ ((y2 = y4 → zL κ b n xs 371 [some (.inr 3000), some (.inr 0), some (.inr 68), some (.inl x3)] [] m3) ∧ (¬ y2 = y4 → False))))) : zL κ b n xs 358 [some (.inr 3000), some (.inr 0), some (.inr 68), some (.inl x3)] [] mem := by
  refine zL_aload_n d_Law_law_358 rfl rfl ?_
  refine zL_callV (Y' := Y_Rp_symbols) (na := 0) (A := []) (q := 0) (S := []) v_Rp_symbols g_320 sh_0 cl_Rp rfl d_Law_law_359 rfl (Nat.le_of_ble_eq_true rfl) rfl (zR_cons ?_ h)
  rintro r_ m1 ⟨y2, rfl, h⟩
  show zL κ b n xs 362 [some (.inr 3000), some (.inr 0), some (.inr 68), some (.inl x3)] [.inl y2] m1
  refine zL_aload_n d_Law_law_362 rfl rfl ?_
  refine zL_callV (Y' := Y_Mo_symbols) (na := 0) (A := []) (q := 68) (S := [.inl y2]) v_Mo_symbols g_321 sh_68 cl_Mo rfl d_Law_law_363 rfl (Nat.le_of_ble_eq_true rfl) rfl (zR_cons ?_ h)
  rintro r_ m3 ⟨y4, rfl, h⟩
  show zL κ b n xs 366 [some (.inr 3000), some (.inr 0), some (.inr 68), some (.inl x3)] [.inl y4, .inl y2] m3
  refine zL_icmp_eq (tgt := 371) d_Law_law_366 (by decide) (fun h1 => ?_) (fun h1 => ?_)
  · replace h := h.1 h1
    exact h
  · replace h := h.2 h1
    refine zL_iconst (v := 0) d_Law_law_369 (by decide) ?_
    exact h.elim
theorem w_Law_law_371 {κ : zK} {b n : Nat} {xs : Nat → Int32} {mem : zM} {x3 : Int32}
    (h : zL κ b n xs 18 [some (.inr 3000), some (.inr 0), some (.inr 68), some (.inl (x3 + 3))] [] mem) : zL κ b n xs 371 [some (.inr 3000), some (.inr 0), some (.inr 68), some (.inl x3)] [] mem := by
  refine zL_iinc (v := 3) d_Law_law_371 rfl (by decide) (by decide) ?_
  refine zL_goto (tgt := 18) d_Law_law_374 (by decide) ?_
  exact h
