/-! the law from its entry to its loop: one theorem -/
section zStart4
set_option maxRecDepth 100000 in
set_option maxHeartbeats 4000000 in
theorem zstart {p : Program} {e : Env} {s : State} {m : MethodId} {below : List Frame} {meth : Method} {c : Code} (l : Launch) {b L : Nat} {xs : Nat → Int32} (C0 : lw_At p s m meth c b L xs)
    (hloop : ∀ κ : zK, zL κ b L xs 18 [some (.inr 3000), some (.inr 0), some (.inr 68), some (.inl (nI 0))] [] zm0) : W p l e room_1 s m #[Value.ref b] below meth c s.heap [] 0 0 (lw_Z below #[Value.ref b] s) (entryFrame m ([Value.ref b] : List Value).toArray 4) := by
  have C1 := C0
  obtain ⟨hx, hb, hr, hml, hown, hts, hX, hbl, hlk, hgv⟩ := C0
  have htg : ∀ w ∈ zGW, w.before #[Value.ref b] s = true := fun w hw => hts w (List.mem_filter.mp hw).1
  obtain ⟨D, cA, hK⟩ := zKn htg
  obtain ⟨tad, htd⟩ := zTds hts hgv
  obtain ⟨adK, adV, hs1, hs2, hs3, hs4, hs5⟩ := zSs hts hgv
  have hN : ∀ w ∈ zNW, va_Nw w s := fun w hw => va_Nw.of (zNW_tab hw) (hts w (List.mem_filter.mp hw).1)
  have hl := lv_entry [Value.ref b] (n := 4) (Nat.le_of_ble_eq_true rfl)
  rw [lg_entry_eq]
  generalize (lg_sl [Value.ref b] ++ List.replicate (4 - (lg_sl [Value.ref b]).length) Slot.unset).toArray = ls at hl ⊢
  have hl : lv_has ls 4 [(0, .ref b)] := hl
  refine va_new (D := D) (cl := zCl) (tys := [(cA, .int)]) (ws := []) (A := fun q => s.heap.size ≤ q) (H0 := s.heap) (ci := 10) (fs := [.null, .null, .null, .null, .null]) hx hb htg (zLay cl_Rp) t_Rp t_Rp_ok hown (htg _ g_386) (htg _ g_387) (htg _ g_388) hK (fun k q h => by simp at h) ⟨fun i j p q h => by simp at h, fun k q h => by simp at h⟩ va_S.rf (fun q h => h) cl_Rp f_Rp_0 (by decide) (by decide) d_Law_law_0 (fun q0 H hP hD hS => ?_)
  refine lv_dup hx hb d_Law_law_3 rfl ?_
  obtain ⟨y0, y1, y2, y4, y5, y6, y7, y8, y9⟩ := v_Rp_init
  have hP : va_P D zCl [(q0, .inr (10, [.null, .null, .null, .null, .null]))] H := hP
  have hD : va_D (fun q => s.heap.size ≤ q) [(q0, .inr (10, [.null, .null, .null, .null, .null]))] := hD
  refine ngo (κ := (l, D, fun _ => 0, cA)) hP hD hS (fun q h => h) (va_runI (As := []) (b := q0) (Ts := zGW) (own := "RingPackerLaw") (index := 9) (n := 0) (bytes := Y_Rp_init.2.1) (maxL := Y_Rp_init.2.2.1) (nL := 4) (cc := code) (rest := [.ref q0])
    ⟨hx, hb, hml, hown, htg⟩ (nMet (κ := (l, D, fun _ => 0, cA)) (sz := H.size) y6 y9 (fun v hv => by rw [List.mem_singleton.mp hv]; rfl) (Nat.le_of_ble_eq_true rfl) zRp_new) (cwI (ws' := zGW) 0 htg (zgood ?_) rfl rfl rfl (htg _ y4) (htg _ g_392) (htg _ y2) rfl y5 ⟨by decide, by decide⟩) ⟨nblind, fun U hU hW => ⟨rfl, by rw [hU], by rw [hU]; exact hP, hD.weaken (fun _ _ _ _ => trivial), nX_warm hW ⟨hK, hN⟩⟩⟩ rfl rfl hl.1 rfl (lv_room (Nat.le_of_ble_eq_true rfl)) d_Law_law_4 ⟨by decide, by decide⟩) (fun w' H1 locs1 hq hP1 hD1 hS1 => ?_)
  · intro w hw
    rcases List.mem_cons.mp hw with rfl | hw
    · exact y1
    · exact hw
  obtain ⟨f, hf0, rfl⟩ := hq
  refine lv_astore_n hx hb d_Law_law_7 rfl hl (by decide) rfl (fun ls1 hl1 => ?_)
  have hl1 : lv_has ls1 4 [(1, .ref q0), (0, .ref b)] := hl1
  refine va_new (D := D) (cl := zCl) (tys := [(cA, .int)]) (A := fun q => s.heap.size ≤ q) (H0 := s.heap) (ci := 11) (fs := [.int 0, .null, .int 0, .null, .int 0, .int 0, .int 0, .int 0, .int 0, .null, .null, .null, .null, .null, .null, .int 0, .null, .null, .null, .null, .null, .null, .null, .int 0, .int 0, .int 0, .int 0, .int 0, .int 0, .int 0, .null]) hx hb htg (zLay cl_Mo) t_Mo t_Mo_ok hown (htg _ g_389) (htg _ g_390) (htg _ g_391) hK hP1 hD1 hS1 (fun q h => h) cl_Mo f_Mo_0 (by decide) (by decide) d_Law_law_8 (fun p0 H2 hP2 hD2 hS2 => ?_)
  refine lv_dup hx hb d_Law_law_11 rfl ?_
  obtain ⟨x0, x1, x2, x4, x5, x6, x7, x8, x9⟩ := v_Mo_init
  refine ngo (κ := (l, D, fun _ => 0, cA)) hP2 hD2 hS2 (fun q h => h) (va_runI (As := []) (b := p0) (Ts := zGW) (own := "RingPackerLaw") (index := 12) (n := 0) (bytes := Y_Mo_init.2.1) (maxL := Y_Mo_init.2.2.1) (nL := 4) (cc := code) (rest := [.ref p0])
    ⟨hx, hb, hml, hown, htg⟩ (nMet (κ := (l, D, fun _ => 0, cA)) (sz := H2.size) x6 x9 (fun v hv => by rw [List.mem_singleton.mp hv]; rfl) (Nat.le_of_ble_eq_true rfl) (zMo_new (far := fun k => if k = 3000 then b else if 2010 ≤ k then adV (k - 2010) else if 2000 ≤ k then adK (k - 2000) else tad (k - 1000)))) (cwI (ws' := zGW) 0 htg (zgood ?_) rfl rfl rfl (htg _ x4) (htg _ g_393) (htg _ x2) rfl x5 ⟨by decide, by decide⟩) ⟨nblind, fun U hU hW => ⟨rfl, by rw [hU], by rw [hU]; exact hP2, hD2.weaken (fun _ _ _ _ => trivial), nX_warm hW ⟨hK, hN⟩⟩⟩ rfl rfl hl1.1 rfl (lv_room (Nat.le_of_ble_eq_true rfl)) d_Law_law_12 ⟨by decide, by decide⟩) (fun w' H3 locs3 hq hP3 hD3 hS3 => ?_)
  · intro w hw
    rcases List.mem_cons.mp hw with rfl | hw
    · exact x1
    · exact hw
  obtain ⟨ad, ha0, ha68, hfar, rfl⟩ := hq
  refine lv_astore_n hx hb d_Law_law_15 rfl hl1 (by decide) rfl (fun ls2 hl2 => ?_)
  refine lv_iconst (v := 0) hx hb d_Law_law_16 (by decide) ?_
  refine lv_istore_n hx hb d_Law_law_17 rfl hl2 (by decide) rfl (fun ls3 hl3 => ?_)
  have hl3 : lv_has ls3 4 [(3, .int 0), (2, .ref p0), (1, .ref q0), (0, .ref b)] := hl3
  have hPz : va_P D zCl (zw (l, D, ad, cA) zm0) H3 := by rw [← zw_E]; exact hP3
  have hDz : va_D (fun q => s.heap.size ≤ q) (zw (l, D, ad, cA) zm0) := by rw [← zw_E]; exact hD3
  have hI : zI (l, D, ad, cA) := fun i j hi hj e => hDz.1 i j _ _ (zw_get (List.getElem?_eq_getElem hi)) (zw_get (List.getElem?_eq_getElem hj)) e
  have hA : ∀ q, zA (l, D, ad, cA) q → s.heap.size ≤ q := by
    rintro q ⟨i, hi, rfl⟩
    exact hDz.2 i _ (zw_get (List.getElem?_eq_getElem hi))
  have e3 : ad 3000 = b := by rw [hfar 3000 (by decide)]; exact if_pos rfl
  have e0 : ad 0 = q0 := ha0.trans hf0
  have hT : zTb (l, D, ad, cA) s := by
    intro k r hr
    have hk : k < 6 := (List.getElem?_eq_some_iff.mp hr).1
    have e1 : ad (1000 + k) = tad k := by
      rw [hfar (1000 + k) (by omega), if_neg (by omega), if_neg (by omega), if_neg (by omega), show 1000 + k - 1000 = k by omega]
    obtain ⟨z1, z2⟩ := htd k r hr
    show va_Z "RingPacker" r.1 "[I" (.ref (ad (1000 + k))) _ s s.heap ∧ va_T .int (ad (1000 + k)) _ _ _ s s.heap
    rw [e1]
    exact ⟨z1.narrow hA, z2.narrow hA⟩
  have hk1 : ∀ i : Nat, i < 2 → ad (2000 + i) = adK i := fun i hi => by
    rw [hfar (2000 + i) (by omega), if_neg (by omega), if_neg (by omega), if_pos (by omega), show 2000 + i - 2000 = i by omega]
  have hk2 : ∀ i : Nat, i < 2 → ad (2010 + i) = adV i := fun i hi => by
    rw [hfar (2010 + i) (by omega), if_neg (by omega), if_pos (by omega), show 2010 + i - 2010 = i by omega]
  have hSt : zSt (l, D, ad, cA) s := by
    refine ⟨?_, ?_, ?_, hs4.narrow hA, hs5.narrow hA⟩
    · show vk_R _ _ _ (ad 2000) s
      rw [show ad 2000 = adK 0 from hk1 0 (by decide)]
      exact hs1
    · show vk_R _ _ _ (ad 2001) s
      rw [show ad 2001 = adK 1 from hk1 1 (by decide)]
      exact hs2
    · have h3 := hs3.narrow hA
      refine ⟨fun i hi => ?_, fun i j hi hj e => ?_⟩
      · show va_O _ (ad (2000 + i)) _ s s.heap ∧ va_OF _ _ _ _ (ad (2000 + i)) _ s s.heap ∧ va_OF _ _ _ (.ref (ad (2010 + i))) (ad (2000 + i)) _ s s.heap ∧ va_T _ (ad (2010 + i)) _ _ _ s s.heap
        rw [hk1 i hi, hk2 i hi]
        exact h3.1 i hi
      · have e : ad (2000 + i) = ad (2000 + j) := e
        rw [hk1 i hi, hk1 j hj] at e
        exact h3.2 i j hi hj e
  refine hloop (l, D, ad, cA) p e s m below meth c ⟨C1, ⟨hK, hN, hI, hT, hSt⟩, hA, e3⟩ H3 locs3 ls3 hPz hS3 ⟨hl3.1, hl3.2.1, fun q hq => hl3.2.2 q ?_⟩
  have hq : q ∈ [(0, Value.ref (ad 3000)), (1, Value.ref (ad 0)), (2, Value.ref (ad 68)), (3, Value.int 0)] := hq
  rw [e3, e0, ha68] at hq
  simp only [List.mem_cons, List.not_mem_nil, or_false] at hq ⊢
  rcases hq with h | h | h | h
  · exact Or.inr (Or.inr (Or.inr h))
  · exact Or.inr (Or.inr (Or.inl h))
  · exact Or.inr (Or.inl h)
  · exact Or.inl h
end zStart4
