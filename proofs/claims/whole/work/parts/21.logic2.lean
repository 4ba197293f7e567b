/-! contracts and calls of the small logic -/
section zCalls
theorem zNW_moved {s U : State} (hW : s.WarmedH U.vm) {w : Cond} (hw : w ∈ zNW) (h : va_Nw w s) : va_Nw w U := by
  have hn : zNest w = true := (List.mem_filter.mp hw).2
  cases w <;> first | exact va_Nw.warmF hW h | exact va_Nw.warmM hW h | exact absurd hn Bool.false_ne_true
theorem zNW_tab {w : Cond} (hw : w ∈ zNW) : w.onTables = true := by
  have hn : zNest w = true := (List.mem_filter.mp hw).2
  cases w <;> first | rfl | exact absurd hn Bool.false_ne_true
theorem zX_same {κ : zK} {u U : State} (hv : u.vm = U.vm) (hh : U.heap = u.heap) (h : zX κ u) : zX κ U := by
  have ha : u.vm.Alike U.vm := by rw [hv]; exact Vm.Alike.refl _
  refine ⟨va_K.moved ha h.1, fun w hw => va_Nw.same (zNW_tab hw) hv (h.2.1 w hw), h.2.2.1, fun k r hr => ?_, ?_⟩
  · rw [hh]
    exact ⟨va_Z.moved ha (h.2.2.2.1 k r hr).1, va_T.moved ha (h.2.2.2.1 k r hr).2⟩
  · obtain ⟨s1, s2, s3, s4, s5⟩ := h.2.2.2.2
    unfold zSt
    rw [hh]
    exact ⟨vk_R.same hv.symm s1, vk_R.same hv.symm s2, vk_S.moved ha s3, va_Z.moved ha s4, va_Zq.moved ha s5⟩
theorem zX_warm {κ : zK} {s U : State} {locs : List Loc} (hW : s.WarmedH U.vm) (hS : va_S (zA κ) s.heap U.heap locs) (h : zX κ s) : zX κ U :=
  ⟨va_K.moved hW.alike h.1, fun w hw => zNW_moved hW hw (h.2.1 w hw), h.2.2.1, fun k r hr => ⟨(va_Z.moved hW.alike (h.2.2.2.1 k r hr).1).kept hS.2.1, (va_T.moved hW.alike (h.2.2.2.1 k r hr).2).kept hS.2.1⟩, vk_R.warm hW h.2.2.2.2.1, vk_R.warm hW h.2.2.2.2.2.1, (vk_S.moved hW.alike h.2.2.2.2.2.2.1).kept hS.2.1, (va_Z.moved hW.alike h.2.2.2.2.2.2.2.1).kept hS.2.1, (va_Zq.moved hW.alike h.2.2.2.2.2.2.2.2).kept hS.2.1⟩
/-- a contract's start -/
abbrev zPc (κ : zK) (A : List zV) (mem : zM) : Array Value → State → Prop := va_Pc (A.map (zv κ)) (fun U => va_P κ.2.1 zCl (zw κ mem) U.heap ∧ zX κ U)
theorem zblind {κ : zK} {A : List zV} {mem : zM} : FrameBlind (zPc κ A mem) := fun _ U _ _ q => ⟨q.1, q.2.1, zX_same (u := U) rfl rfl q.2.2⟩
theorem zMet {κ : zK} {d : Nat} {Y : zY} {A : List zV} {mem : zM} {Q : Option zV → zM → Prop} (hy : plainName Y.1.cls = true) (hA : A.length ≤ Y.2.2.1) (h : zR κ d Y 0 (zent A Y.2.2.1) [] mem Q) :
    Met κ.1 Y.1 (zws Y) (zrm d) (zPc κ A mem) (zQ κ Q) 0 0 (zA κ) := by
  refine Met.ofW (cc := Y.2.1) (maxL := Y.2.2.1) (ret := Y.2.2.2) hy rfl ?_
  intro p e s m args below meth c s₁ B hml hv
  obtain ⟨rfl, hP, hX⟩ := hv
  have hts := atoms_spec (ws := zws Y) B.pre
  have hl := lv_entry (A.map (zv κ)) (n := Y.2.2.1) (by rw [zsl]; exact hA)
  rw [lg_entry_eq]
  generalize (lg_sl (A.map (zv κ)) ++ List.replicate (Y.2.2.1 - (lg_sl (A.map (zv κ))).length) Slot.unset).toArray = ls at hl ⊢
  have hl' : lv_has ls Y.2.2.1 (zl κ 0 (zent A Y.2.2.1)) := ⟨hl.1, hl.2.1, fun q hq => hl.2.2 q (zargs A _ 0 q hq)⟩
  exact h p e s m _ below meth c ⟨B.exec, B.bytes, hml, B.returns, B.notSynchronized, findClass_of_methodNamed B.named, fun w hw => hts w (List.mem_cons_of_mem _ hw), hX⟩ s.heap [] ls hP va_S.rf hl'
theorem zgo {κ : zK} {d : Nat} {Y : zY} {pc : Nat} {L : List (Option zV)} {S : List zV} {Q : Option zV → zM → Prop} {p : Program} {e : Env} {s : State} {m : MethodId} {args : Array Value} {below : List Frame} {meth : Method} {c : Code} {H : Heap} {locs : List Loc} {ls : Array Slot} {st0 : List Value} {a : Array Value}
    (C : zC κ Y p s m args meth c) (hS : va_S (zA κ) s.heap H locs) (hl : lv_has ls Y.2.2.1 (zl κ 0 L))
    (hr : va_Run p κ.1 e (zrm d) s m args below meth c H locs 0 0 0 0 (F0 m pc ls st0) (S.map (zv κ)) (zQ κ (fun r m' => zR κ d Y (pc + 3) L (r.toList ++ S) m' Q) a) (zA κ)) :
    W p κ.1 e (zrm d) s m args below meth c H locs 0 0 (MQ below (zQ κ Q) args s 0 0 (zA κ)) (F0 m pc ls st0) := by
  intro T hT X
  obtain ⟨v, st₀, t, T', L', h0, X', hL, e1, e2, ⟨⟨r, mem', hv, hq, hP'⟩, hz, hk⟩, st⟩ := hr T hT X
  cases hv
  rw [h0] at hz hk
  obtain ⟨t2, a1, b1⟩ := hq p e s m args below meth c C T'.heap (locs ++ L') ls (by rw [e1]; exact hP')
    ⟨Nat.le_trans hS.1 (by rw [e1]; exact hz), fun q h1 h2 => by rw [e1, hk q (Nat.lt_of_lt_of_le h1 hS.1) h2]; exact hS.2.1 q h1 h2, fun q hq => by
      rcases List.mem_append.mp hq with h | h
      · exact hS.2.2 q h
      · exact hL q h⟩ hl T' rfl X'
  have hmap : (r.toList ++ S).map (zv κ) = (r.map (zv κ)).toList ++ S.map (zv κ) := by cases r <;> simp
  rw [hmap] at a1
  exact ⟨t2, st t2 a1, b1⟩
theorem zgood {ws : List Cond} (h : ∀ w ∈ ws, w ∈ zGW) : GoodIn zGW ws := fun w hw => ⟨h w hw, good_of_word (List.mem_filter.mp (h w hw)).2⟩
/-- what a callee's words must be -/
abbrev zCD (Y : zY) (n : Nat) : Prop := Y.1.cls ≠ "java/lang/invoke/MethodHandle" ∧ Y.1.cls ≠ "java/lang/invoke/VarHandle" ∧ (parseMethodDescriptor Y.1.desc).map (fun d => d.parameters.length) = some n
abbrev zCV (Y : zY) (n : Nat) : Prop := Cond.code Y.1 Y.2.1 Y.2.2.1 Y.2.2.2 ∈ zGW ∧ Cond.instanceMethod Y.1 ∈ zGW ∧ Cond.selects Y.1.cls Y.1 Y.1 ∈ zGW ∧ Cond.initialized Y.1.cls ∈ zGW ∧ zCD Y n ∧ plainName Y.1.cls = true ∧ Y.2.2.1 ≤ 21 ∧ n + 1 ≤ Y.2.2.1
abbrev zCS (Y : zY) (n : Nat) : Prop := Cond.code Y.1 Y.2.1 Y.2.2.1 Y.2.2.2 ∈ zGW ∧ Cond.static Y.1 ∈ zGW ∧ Cond.initialized Y.1.cls ∈ zGW ∧ zCD Y n ∧ plainName Y.1.cls = true ∧ Y.2.2.1 ≤ 21 ∧ n ≤ Y.2.2.1
theorem zroom {κ : zK} {m : MethodId} {pc : Nat} {ls : Array Slot} {rest : List Value} {S : List zV} (h : S.length ≤ 8) : 2 * (F0 m pc ls rest).monitorRoom + ((S.map (zv κ)).map fun v => v.category).sum ≤ 8 := by
  refine lv_room ?_
  have e : ∀ S : List zV, ((S.map (zv κ)).map fun v => v.category).sum = S.length := by
    intro S
    induction S with
    | nil => rfl
    | cons a S ih => rw [List.map_cons, List.map_cons, List.sum_cons, ih, zcat, List.length_cons]; omega
  rw [e]
  exact h
theorem zfit {d k : Nat} (h : k ≤ 21) : (zrm d).frames + 1 ≤ (zrm (d + 1)).frames ∧ 8 + (k + 11) + (zrm d).locals ≤ (zrm (d + 1)).locals := by
  refine ⟨Nat.le_refl _, ?_⟩
  show 8 + (k + 11) + 40 * d ≤ 40 * (d + 1)
  omega
section
variable {κ : zK} {d : Nat} {Y Y' : zY} {pc idx n b ci : Nat} {L : List (Option zV)} {S S0 A : List zV} {mem : zM} {Q : Option zV → zM → Prop} {fs : List (Option Nat)} {r : vw_C}
theorem zR_callV (hY : zCV Y' n) (hlk : Cond.methodLink Y.1.cls idx Y'.1 ∈ zGW) (hs : shT[b]? = some (.inr (ci, fs))) (hc : zCl[ci]? = some r) (hr : r.1 = Y'.1.cls) (hd : decode Y.2.1 pc = .ok (.invokevirtual idx, 3)) (hn : A.length = n) (h8 : S.length ≤ 8) (hS0 : S0 = A.reverse ++ .inr b :: S)
    (h : zR κ d Y' 0 (zent (.inr b :: A) Y'.2.2.1) [] mem (fun r m' => zR κ (d + 1) Y (pc + 3) L (r.toList ++ S) m' Q)) : zR κ (d + 1) Y pc L S0 mem Q := by
  subst hS0
  intro p e s m args below meth c C H locs ls hP hS hl
  obtain ⟨y1, y2, y3, y4, y5, y6, y7, y8⟩ := hY
  have hM := zMet (A := .inr b :: A) y6 (by rw [List.length_cons, hn]; exact y8) h
  have hrecv := va_recv C.2.2.2.2.2.2.2.1 hP hc (zw_get hs)
  rw [hr] at hrecv
  refine zgo C hS hl (va_runV (As := A.map (zv κ)) (b := κ.2.2.1 b) (C := Y'.1.cls) (Ts := zGW) (own := Y.1.cls) (index := idx) (n := n) (bytes := Y'.2.1) (maxL := Y'.2.2.1) (ret := Y'.2.2.2) (nL := Y.2.2.1) (cc := Y.2.1) (rest := S.map (zv κ))
    ⟨C.1, C.2.1, C.2.2.1, C.2.2.2.2.2.1, C.2.2.2.2.2.2.1⟩ hM (cwV (ws' := zGW) n C.2.2.2.2.2.2.1 (zgood ?_) rfl rfl rfl ⟨rfl, y5⟩ (zfit y7)) ⟨zblind, hrecv, fun U hU hW => ⟨rfl, by rw [hU]; exact hP, zX_warm hW (by rw [hU]; exact hS) C.2.2.2.2.2.2.2⟩⟩ rfl (by rw [List.length_map]; exact hn) hl.1 (by simp [zv]) (zroom h8) hd ⟨Nat.le_refl _, Nat.le_refl _⟩)
  intro w hw
  simp only [wsV, zws, List.mem_append, List.mem_cons, List.not_mem_nil, or_false] at hw
  rcases hw with (rfl | rfl | rfl | rfl) | rfl | hw
  · exact hlk
  · exact y2
  · exact y3
  · exact y4
  · exact y1
  · exact hw
theorem zR_callVN {host : String} (hY : zCV Y' n) (hlk : Cond.methodLinkNest Y.1.cls idx Y'.1 host ∈ zNW) (hs : shT[b]? = some (.inr (ci, fs))) (hc : zCl[ci]? = some r) (hr : r.1 = Y'.1.cls) (hd : decode Y.2.1 pc = .ok (.invokevirtual idx, 3)) (hn : A.length = n) (h8 : S.length ≤ 8) (hS0 : S0 = A.reverse ++ .inr b :: S)
    (h : zR κ d Y' 0 (zent (.inr b :: A) Y'.2.2.1) [] mem (fun r m' => zR κ (d + 1) Y (pc + 3) L (r.toList ++ S) m' Q)) : zR κ (d + 1) Y pc L S0 mem Q := by
  subst hS0
  intro p e s m args below meth c C H locs ls hP hS hl
  obtain ⟨y1, y2, y3, y4, y5, y6, y7, y8⟩ := hY
  have hM := zMet (A := .inr b :: A) y6 (by rw [List.length_cons, hn]; exact y8) h
  have hrecv := va_recv C.2.2.2.2.2.2.2.1 hP hc (zw_get hs)
  rw [hr] at hrecv
  have hts := C.2.2.2.2.2.2.1
  refine zgo C hS hl (va_runVN (As := A.map (zv κ)) (b := κ.2.2.1 b) (C := Y'.1.cls) (Ts := zGW) (own := Y.1.cls) (index := idx) (n := n) (bytes := Y'.2.1) (maxL := Y'.2.2.1) (ret := Y'.2.2.2) (nL := Y.2.2.1) (cc := Y.2.1) (rest := S.map (zv κ))
    ⟨C.1, C.2.1, C.2.2.1, C.2.2.2.2.2.1, hts⟩ hM ⟨va_cnB (ws' := zGW) n hts (zgood ?_) rfl rfl rfl (C.2.2.2.2.2.2.2.2.1 _ hlk) (hts _ y4) y5 (zfit y7), hts _ y2, hts _ y3⟩ ⟨zblind, hrecv, fun U hU hW => ⟨rfl, by rw [hU]; exact hP, zX_warm hW (by rw [hU]; exact hS) C.2.2.2.2.2.2.2⟩⟩ rfl (by rw [List.length_map]; exact hn) hl.1 (by simp [zv]) (zroom h8) hd ⟨Nat.le_refl _, Nat.le_refl _⟩)
  intro w hw
  rcases List.mem_cons.mp hw with rfl | hw
  · exact y1
  · exact hw
theorem zR_callS (hY : zCS Y' n) (hlk : Cond.methodLink Y.1.cls idx Y'.1 ∈ zGW) (hd : decode Y.2.1 pc = .ok (.invokestatic idx, 3)) (hn : A.length = n) (h8 : S.length ≤ 8) (hS0 : S0 = A.reverse ++ S)
    (h : zR κ d Y' 0 (zent A Y'.2.2.1) [] mem (fun r m' => zR κ (d + 1) Y (pc + 3) L (r.toList ++ S) m' Q)) : zR κ (d + 1) Y pc L S0 mem Q := by
  subst hS0
  intro p e s m args below meth c C H locs ls hP hS hl
  obtain ⟨y1, y2, y4, y5, y6, y7, y8⟩ := hY
  have hM := zMet (A := A) y6 (by rw [hn]; exact y8) h
  have hts := C.2.2.2.2.2.2.1
  refine zgo C hS hl (va_runS (As := A.map (zv κ)) (Ts := zGW) (own := Y.1.cls) (index := idx) (n := n) (bytes := Y'.2.1) (maxL := Y'.2.2.1) (ret := Y'.2.2.2) (nL := Y.2.2.1) (cc := Y.2.1) (rest := S.map (zv κ))
    ⟨C.1, C.2.1, C.2.2.1, C.2.2.2.2.2.1, hts⟩ hM (va_cwS (ws' := zGW) n hts (zgood ?_) rfl rfl rfl y5 (zfit y7)) ⟨zblind, fun U hU hW => ⟨rfl, by rw [hU]; exact hP, zX_warm hW (by rw [hU]; exact hS) C.2.2.2.2.2.2.2⟩⟩ rfl (by rw [List.length_map]; exact hn) hl.1 (by simp) (zroom h8) hd ⟨Nat.le_refl _, Nat.le_refl _⟩)
  intro w hw
  simp only [va_wsS, zws, List.mem_append, List.mem_cons, List.not_mem_nil, or_false] at hw
  rcases hw with (rfl | rfl | rfl) | rfl | hw
  · exact hlk
  · exact y2
  · exact y4
  · exact y1
  · exact hw
theorem zR_callSN {host : String} (hY : zCS Y' n) (hlk : Cond.methodLinkNest Y.1.cls idx Y'.1 host ∈ zNW) (hd : decode Y.2.1 pc = .ok (.invokestatic idx, 3)) (hn : A.length = n) (h8 : S.length ≤ 8) (hS0 : S0 = A.reverse ++ S)
    (h : zR κ d Y' 0 (zent A Y'.2.2.1) [] mem (fun r m' => zR κ (d + 1) Y (pc + 3) L (r.toList ++ S) m' Q)) : zR κ (d + 1) Y pc L S0 mem Q := by
  subst hS0
  intro p e s m args below meth c C H locs ls hP hS hl
  obtain ⟨y1, y2, y4, y5, y6, y7, y8⟩ := hY
  have hM := zMet (A := A) y6 (by rw [hn]; exact y8) h
  have hts := C.2.2.2.2.2.2.1
  refine zgo C hS hl (va_runSN (As := A.map (zv κ)) (Ts := zGW) (own := Y.1.cls) (index := idx) (n := n) (bytes := Y'.2.1) (maxL := Y'.2.2.1) (ret := Y'.2.2.2) (nL := Y.2.2.1) (cc := Y.2.1) (rest := S.map (zv κ))
    ⟨C.1, C.2.1, C.2.2.1, C.2.2.2.2.2.1, hts⟩ hM ⟨va_cnB (ws' := zGW) n hts (zgood ?_) rfl rfl rfl (C.2.2.2.2.2.2.2.2.1 _ hlk) (hts _ y4) y5 (zfit y7), hts _ y2, trivial⟩ ⟨zblind, fun U hU hW => ⟨rfl, by rw [hU]; exact hP, zX_warm hW (by rw [hU]; exact hS) C.2.2.2.2.2.2.2⟩⟩ rfl (by rw [List.length_map]; exact hn) hl.1 (by simp) (zroom h8) hd ⟨Nat.le_refl _, Nat.le_refl _⟩)
  intro w hw
  rcases List.mem_cons.mp hw with rfl | hw
  · exact y1
  · exact hw
end
end zCalls
