/-! String.charAt on the two literals -/
section zStr
variable {κ : zK} {d : Nat} {Y Y' : zY} {pc : Nat} {L : List (Option zV)} {S S0 A : List zV} {mem : zM} {Q : Option zV → zM → Prop}
theorem zR_creturn {x : Int32} (hr : Y.2.2.2 = some .char) (hd : decode Y.2.1 pc = .ok (.ireturn, 1)) (hn : narrow .char (.int x) = .int x) (hq : Q (some (.inl x)) mem) : zR κ d Y pc L [.inl x] mem Q := by
  intro p e s m args below meth c C H locs ls hP hS hl
  exact W.zret (v := x) C.1 C.2.1 (C.2.2.2.1.trans hr) hn (fun t ht hW => ⟨⟨some (.inl x), mem, rfl, hq, by rw [ht]; exact hP⟩, hS.F ht⟩) hS.2.2 hd C.2.2.2.2.1
theorem zR_i2c {x v : Int32} (hd : decode Y.2.1 pc = .ok (.i2c, 1)) (hv : (x.toUInt32 % 65536).toInt32 = v) (k : zR κ d Y (pc + 1) L (.inl v :: S) mem Q) : zR κ d Y pc L (.inl x :: S) mem Q := by
  intro p e s m args below meth c C H locs ls hP hS hl
  exact lv_i2c C.1 C.2.1 hd hv (k p e s m args below meth c C H locs ls hP hS hl)
theorem zR_baload {i : Nat} {j : Int32} (hi : i < 2) (hd : decode Y.2.1 pc = .ok (.baload, 1)) (hin : vp_in j (zSL.getD i 0)) (k : zR κ d Y (pc + 1) L (.inl ((zSB.getD i []).getD j.toNatClampNeg 0) :: S) mem Q) : zR κ d Y pc L (.inl j :: .inr (2010 + i) :: S) mem Q := by
  intro p e s m args below meth c C H locs ls hP hS hl
  exact va_tb C.1 C.2.1 (C.2.2.2.2.2.2.2.2.2.2.2.2.2.1.1 i hi).2.2.2 hS hin rfl hd (k p e s m args below meth c C H locs ls hP hS hl)
theorem zR_blen {i : Nat} {v : Int32} (hi : i < 2) (hd : decode Y.2.1 pc = .ok (.arraylength, 1)) (hv : Int32.ofNat (zSL.getD i 0) = v) (k : zR κ d Y (pc + 1) L (.inl v :: S) mem Q) : zR κ d Y pc L (.inr (2010 + i) :: S) mem Q := by
  intro p e s m args below meth c C H locs ls hP hS hl
  exact va_tlen C.1 C.2.1 (C.2.2.2.2.2.2.2.2.2.2.2.2.2.1.1 i hi).2.2.2 hS hv hd (k p e s m args below meth c C H locs ls hP hS hl)
theorem zR_value {i idx : Nat} (hi : i < 2) (hd : decode Y.2.1 pc = .ok (.getfield idx, 3)) (hlk : Cond.fieldLink Y.1.cls idx "java/lang/String" "value" "[B" ∈ zGW) (k : zR κ d Y (pc + 3) L (.inr (2010 + i) :: S) mem Q) : zR κ d Y pc L (.inr (2000 + i) :: S) mem Q := by
  intro p e s m args below meth c C H locs ls hP hS hl
  exact vk_getf C.1 C.2.1 (C.2.2.2.2.2.2.2.2.2.2.2.2.2.1.1 i hi).2.2.1 hS C.2.2.2.2.2.1 (C.2.2.2.2.2.2.1 _ hlk) (fun _ h => h) hd (k p e s m args below meth c C H locs ls hP hS hl)
theorem zR_coder {i idx : Nat} (hi : i < 2) (hd : decode Y.2.1 pc = .ok (.getfield idx, 3)) (hlk : Cond.fieldLink Y.1.cls idx "java/lang/String" "coder" "B" ∈ zGW) (k : zR κ d Y (pc + 3) L (.inl 0 :: S) mem Q) : zR κ d Y pc L (.inr (2000 + i) :: S) mem Q := by
  intro p e s m args below meth c C H locs ls hP hS hl
  exact vk_getf C.1 C.2.1 (C.2.2.2.2.2.2.2.2.2.2.2.2.2.1.1 i hi).2.1 hS C.2.2.2.2.2.1 (C.2.2.2.2.2.2.1 _ hlk) (fun _ h => h) hd (k p e s m args below meth c C H locs ls hP hS hl)
theorem zR_compact {idx : Nat} (hd : decode Y.2.1 pc = .ok (.getstatic idx, 3)) (hlk : Cond.fieldLink Y.1.cls idx "java/lang/String" "COMPACT_STRINGS" "Z" ∈ zGW) (k : zR κ d Y (pc + 3) L (.inl 1 :: S) mem Q) : zR κ d Y pc L S mem Q := by
  intro p e s m args below meth c C H locs ls hP hS hl
  exact va_gets C.1 C.2.1 C.2.2.2.2.2.2.2.2.2.2.2.2.2.2.1 hS C.2.2.2.2.2.1 (C.2.2.2.2.2.2.1 _ hlk) (fun _ h => h) hd (k p e s m args below meth c C H locs ls hP hS hl)
theorem zR_ldc4 (hY : Y.1.cls = "RingPacker$Words") (hd : decode Y.2.1 pc = .ok (.ldc 9, 2)) (k : zR κ d Y (pc + 2) L (.inr 2000 :: S) mem Q) : zR κ d Y pc L S mem Q := by
  intro p e s m args below meth c C H locs ls hP hS hl
  exact va_ldcS C.1 C.2.1 (by rw [← hY]; exact C.2.2.2.2.2.1) C.2.2.2.2.2.2.2.2.2.2.2.1 hd (k p e s m args below meth c C H locs ls hP hS hl)
theorem zR_ldc5 (hY : Y.1.cls = "RingPacker$Words") (hd : decode Y.2.1 pc = .ok (.ldc 11, 2)) (k : zR κ d Y (pc + 2) L (.inr 2001 :: S) mem Q) : zR κ d Y pc L S mem Q := by
  intro p e s m args below meth c C H locs ls hP hS hl
  exact va_ldcS C.1 C.2.1 (by rw [← hY]; exact C.2.2.2.2.2.1) C.2.2.2.2.2.2.2.2.2.2.2.2.1 hd (k p e s m args below meth c C H locs ls hP hS hl)
theorem zR_callStr {i idx n : Nat} (hi : i < 2) (hY : zCV Y' n) (hr : Y'.1.cls = "java/lang/String") (hlk : Cond.methodLink Y.1.cls idx Y'.1 ∈ zGW) (hd : decode Y.2.1 pc = .ok (.invokevirtual idx, 3)) (hn : A.length = n) (h8 : S.length ≤ 8) (hS0 : S0 = A.reverse ++ .inr (2000 + i) :: S)
    (h : zR κ d Y' 0 (zent (.inr (2000 + i) :: A) Y'.2.2.1) [] mem (fun r m' => zR κ (d + 1) Y (pc + 3) L (r.toList ++ S) m' Q)) : zR κ (d + 1) Y pc L S0 mem Q := by
  subst hS0
  intro p e s m args below meth c C H locs ls hP hS hl
  obtain ⟨y1, y2, y3, y4, y5, y6, y7, y8⟩ := hY
  have hM := zMet (A := .inr (2000 + i) :: A) y6 (by rw [List.length_cons, hn]; exact y8) h
  have hrecv := vk_recv C.2.2.2.2.2.2.2.2.2.2.2.2.2.1 hi hS
  rw [← hr] at hrecv
  refine zgo C hS hl (va_runV (As := A.map (zv κ)) (b := κ.2.2.1 (2000 + i)) (C := Y'.1.cls) (Ts := zGW) (own := Y.1.cls) (index := idx) (n := n) (bytes := Y'.2.1) (maxL := Y'.2.2.1) (ret := Y'.2.2.2) (nL := Y.2.2.1) (cc := Y.2.1) (rest := S.map (zv κ))
    ⟨C.1, C.2.1, C.2.2.1, C.2.2.2.2.2.1, C.2.2.2.2.2.2.1⟩ hM (cwV (ws' := zGW) n C.2.2.2.2.2.2.1 (zgood ?_) rfl rfl rfl ⟨rfl, y5⟩ (zfit y7)) ⟨zblind, hrecv, fun U hU hW => ⟨rfl, by rw [hU]; exact hP, zX_warm hW (by rw [hU]; exact hS) C.2.2.2.2.2.2.2⟩⟩ rfl (by rw [List.length_map]; exact hn) hl.1 (by simp [zv]) (zroom h8) hd ⟨Nat.le_refl _, Nat.le_refl _⟩)
  intro w hw
  simp only [wsV, zws, List.mem_append, List.mem_cons, List.not_mem_nil, or_false] at hw
  rcases hw with (rfl | rfl | rfl | rfl) | rfl | hw
  · exact hlk
  · exact y2
  · exact y3
  · exact y4
  · exact y1
  · exact hw
/-- Preconditions.checkIndex where the index is good -/
theorem s_Pre_checkIndex {x y : Int32} {fv : Value} {J : Option Value → zM → Prop} (h0 : ¬ x < 0) (h1 : x < y) (hQ : J (some (.int x)) mem) : zT κ d Y_Pre_checkIndex 0 (lv_args 0 [.int x, .int y, fv]) [] mem J := by
  intro p e s m args below meth c C H locs ls hP hS hl
  have hl : lv_has ls 3 [(0, .int x), (1, .int y), (2, fv)] := hl
  refine lv_iload_n C.1 C.2.1 d_Pre_checkIndex_0 rfl (hl.2.2 (0, .int x) (by simp)) ?_
  refine lv_if_lt C.1 C.2.1 (tgt := 9) d_Pre_checkIndex_1 (by decide) (fun z => absurd z h0) (fun _ => ?_)
  refine lv_iload_n C.1 C.2.1 d_Pre_checkIndex_4 rfl (hl.2.2 (0, .int x) (by simp)) ?_
  refine lv_iload_n C.1 C.2.1 d_Pre_checkIndex_5 rfl (hl.2.2 (1, .int y) (by simp)) ?_
  refine lv_icmp_lt C.1 C.2.1 (tgt := 16) d_Pre_checkIndex_6 (by decide) (fun _ => ?_) (fun z => absurd h1 z)
  refine lv_iload_n C.1 C.2.1 d_Pre_checkIndex_16 rfl (hl.2.2 (0, .int x) (by simp)) ?_
  exact W.iret C.1 C.2.1 (C.2.2.2.1.trans rfl) (fun t ht hW => ⟨⟨some (.int x), mem, rfl, hQ, by rw [ht]; exact hP⟩, hS.F ht⟩) hS.2.2 d_Pre_checkIndex_17 C.2.2.2.2.1
theorem s_Str_checkIndex {x y : Int32} (h0 : ¬ x < 0) (h1 : x < y) (hQ : Q none mem) : zR κ (d + 1) Y_Str_checkIndex 0 [some (.inl x), some (.inl y)] [] mem Q := by
  refine zR_ofT ?_
  intro p e s m args below meth c C H locs ls hP hS hl
  have hl : lv_has ls 2 [(0, .int x), (1, .int y)] := hl
  refine lv_iload_n C.1 C.2.1 d_Str_checkIndex_0 rfl (hl.2.2 (0, .int x) (by simp)) ?_
  refine lv_iload_n C.1 C.2.1 d_Str_checkIndex_1 rfl (hl.2.2 (1, .int y) (by simp)) ?_
  have hpop : ∀ fv : Value, fv.category = 1 → va_Z "jdk/internal/util/Preconditions" "SIOOBE_FORMATTER" "Ljava/util/function/BiFunction;" fv (zA κ) s s.heap → W p κ.1 e (zrm (d + 1)) s m args below meth c H locs 0 0 (MQ below (zJ κ (fun r m => ∃ r' : Option zV, r = r'.map (zv κ) ∧ Q r' m)) args s 0 0 (zA κ)) (F0 m 2 ls [.int y, .int x]) := by
    intro fv hfv hZ
    refine va_gets C.1 C.2.1 hZ hS C.2.2.2.2.2.1 (C.2.2.2.2.2.2.1 _ gs_form) (fun _ h => h) d_Str_checkIndex_2 ?_
    refine zT_callS (κ := κ) (d := d) (Y := Y_Str_checkIndex) (Y' := Y_Pre_checkIndex) (mem := mem) (As := [.int x, .int y, fv]) (lv := [(0, .int x), (1, .int y)]) v_Pre_checkIndex gs_pre d_Str_checkIndex_5 rfl ?_ (s_Pre_checkIndex h0 h1 ?_) p e s m args below meth c C H locs ls hP hS hl
    · have e3 : lg_sl [.int x, .int y, fv] = [.val (.int x), .val (.int y)] ++ ((if fv.category = 2 then [.val fv, .second] else [.val fv]) ++ []) := rfl
      rw [e3, if_neg (by rw [hfv]; decide)]
      exact Nat.le_refl 3
    intro p e s m args below meth c C H locs ls hP hS hl
    refine lv_pop C.1 C.2.1 d_Str_checkIndex_8 rfl ?_
    exact W.vret C.1 C.2.1 (C.2.2.2.1.trans rfl) (fun t ht hW => ⟨⟨none, mem, rfl, ⟨none, rfl, hQ⟩, by rw [ht]; exact hP⟩, hS.F ht⟩) hS.2.2 d_Str_checkIndex_9 C.2.2.2.2.1
  rcases C.2.2.2.2.2.2.2.2.2.2.2.2.2.2.2 with hZ | ⟨t, hZ⟩
  · exact hpop _ rfl hZ
  · exact hpop _ rfl hZ
theorem s_Lat_charAt {i k : Nat} (hi : i < 2) (hk : k < zSL.getD i 0) (hQ : Q (some (.inl ((zSB.getD i []).getD k 0 &&& 255))) mem) : zR κ (d + 2) Y_Lat_charAt 0 [some (.inr (2010 + i)), some (.inl (nI k))] [] mem Q := by
  have h31 : zSL.getD i 0 < 2 ^ 31 := by
    rcases (show i = 0 ∨ i = 1 by omega) with rfl | rfl <;> decide
  have hin : vp_in (nI k) (zSL.getD i 0) := vp_in_nI hk h31
  refine zR_iload_n d_Lat_charAt_0 rfl rfl ?_
  refine zR_aload_n d_Lat_charAt_1 rfl rfl ?_
  refine zR_blen hi d_Lat_charAt_2 rfl ?_
  refine zR_callS (A := [.inl (nI k), .inl (Int32.ofNat (zSL.getD i 0))]) (S := []) v_Str_checkIndex gs_chk d_Lat_charAt_3 rfl (by decide) rfl ?_
  refine s_Str_checkIndex (nI_pos (by omega)) (nI_lt hk h31) ?_
  refine zR_aload_n d_Lat_charAt_6 rfl rfl ?_
  refine zR_iload_n d_Lat_charAt_7 rfl rfl ?_
  refine zR_baload hi d_Lat_charAt_8 hin ?_
  rw [nI_clamp (by omega)]
  refine zR_sipush d_Lat_charAt_9 (v := 255) (by decide) ?_
  refine zR_iand d_Lat_charAt_12 ?_
  refine zR_i2c d_Lat_charAt_13 (sc_c2 _) ?_
  exact zR_creturn rfl d_Lat_charAt_14 (sc_nar _) hQ
theorem s_Str_charAt {i k : Nat} (hi : i < 2) (hk : k < zSL.getD i 0) (hQ : Q (some (.inl ((zSB.getD i []).getD k 0 &&& 255))) mem) : zR κ (d + 3) Y_Str_charAt 0 [some (.inr (2000 + i)), some (.inl (nI k))] [] mem Q := by
  refine zR_aload_n d_Str_charAt_0 rfl rfl ?_
  refine zR_callStr (A := []) (S := []) hi v_Str_isLatin1 rfl gs_lat d_Str_charAt_1 rfl (by decide) rfl ?_
  show zR κ (d + 2) Y_Str_isLatin1 0 [some (.inr (2000 + i))] [] mem _
  refine zR_compact d_Str_isLatin1_0 gs_comp ?_
  refine zR_if_eq (tgt := 17) d_Str_isLatin1_3 (by decide) (fun z => absurd z (by decide)) (fun _ => ?_)
  refine zR_aload_n d_Str_isLatin1_6 rfl rfl ?_
  refine zR_coder hi d_Str_isLatin1_7 gs_coder ?_
  refine zR_if_ne (tgt := 17) d_Str_isLatin1_10 (by decide) (fun z => absurd rfl z) (fun _ => ?_)
  refine zR_iconst d_Str_isLatin1_13 (v := 1) (by decide) ?_
  refine zR_goto (tgt := 18) d_Str_isLatin1_14 (by decide) ?_
  refine zR_zreturn rfl d_Str_isLatin1_18 (Or.inr rfl) ?_
  refine zR_if_eq (tgt := 16) d_Str_charAt_4 (by decide) (fun z => absurd z (by decide)) (fun _ => ?_)
  refine zR_aload_n d_Str_charAt_7 rfl rfl ?_
  refine zR_value hi d_Str_charAt_8 gs_value ?_
  refine zR_iload_n d_Str_charAt_11 rfl rfl ?_
  refine zR_callS (A := [.inr (2010 + i), .inl (nI k)]) (S := []) v_Lat_charAt gs_lch d_Str_charAt_12 rfl (by decide) rfl ?_
  refine s_Lat_charAt hi hk ?_
  exact zR_creturn rfl d_Str_charAt_15 (sc_nar _) hQ
/-- a letter of the words' rows -/
def zch (i k : Nat) : Int32 := (zSB.getD i []).getD k 0 &&& 255
end zStr
