/-! the logic's raw form: any locals, any stack, any answer -/
section zRaw
variable {κ : zK} {d : Nat} {Y Y' : zY} {pc : Nat} {mem : zM}
/-- as zQ, with any answer -/
def zJ (κ : zK) (J : Option Value → zM → Prop) : Array Value → State → Outcome → State → Prop := fun _ st oc t =>
  (∃ (r : Option Value) (mem : zM), oc = .returned r ∧ J r mem ∧ va_P κ.2.1 zCl (zw κ mem) t.heap) ∧ va_F (zA κ) st t
/-- as zR, with any locals and any stack -/
def zT (κ : zK) (d : Nat) (Y : zY) (pc : Nat) (lv : List (Nat × Value)) (st : List Value) (mem : zM) (J : Option Value → zM → Prop) : Prop :=
  ∀ (p : Program) (e : Env) (s : State) (m : MethodId) (args : Array Value) (below : List Frame) (meth : Method) (c : Code), zC κ Y p s m args meth c →
    ∀ (H : Heap) (locs : List Loc) (ls : Array Slot), va_P κ.2.1 zCl (zw κ mem) H → va_S (zA κ) s.heap H locs → lv_has ls Y.2.2.1 lv →
      W p κ.1 e (zrm d) s m args below meth c H locs 0 0 (MQ below (zJ κ J) args s 0 0 (zA κ)) (F0 m pc ls st)
theorem zR_ofT {L : List (Option zV)} {S : List zV} {Q : Option zV → zM → Prop} (h : zT κ d Y pc (zl κ 0 L) (S.map (zv κ)) mem (fun r m => ∃ r' : Option zV, r = r'.map (zv κ) ∧ Q r' m)) : zR κ d Y pc L S mem Q := by
  intro p e s m args below meth c C H locs ls hP hS hl T hT X
  obtain ⟨t, a, o, b1, b2, ⟨⟨r, mem', c1, ⟨r', c0, c2⟩, c3⟩, c4⟩, b4⟩ := h p e s m args below meth c C H locs ls hP hS hl T hT X
  exact ⟨t, a, o, b1, b2, ⟨⟨r', mem', by rw [← c0]; exact c1, c2, c3⟩, c4⟩, b4⟩
abbrev zPv (κ : zK) (As : List Value) (mem : zM) : Array Value → State → Prop := va_Pc As (fun U => va_P κ.2.1 zCl (zw κ mem) U.heap ∧ zX κ U)
theorem zblindv {As : List Value} : FrameBlind (zPv κ As mem) := fun _ U _ _ q => ⟨q.1, q.2.1, zX_same (u := U) rfl rfl q.2.2⟩
theorem zMetT {As : List Value} {J : Option Value → zM → Prop} (hy : plainName Y.1.cls = true) (hA : (lg_sl As).length ≤ Y.2.2.1) (h : zT κ d Y 0 (lv_args 0 As) [] mem J) :
    Met κ.1 Y.1 (zws Y) (zrm d) (zPv κ As mem) (zJ κ J) 0 0 (zA κ) := by
  refine Met.ofW (cc := Y.2.1) (maxL := Y.2.2.1) (ret := Y.2.2.2) hy rfl ?_
  intro p e s m args below meth c s₁ B hml hv
  obtain ⟨rfl, hP, hX⟩ := hv
  have hts := atoms_spec (ws := zws Y) B.pre
  have hl := lv_entry As (n := Y.2.2.1) hA
  rw [lg_entry_eq]
  generalize (lg_sl As ++ List.replicate (Y.2.2.1 - (lg_sl As).length) Slot.unset).toArray = ls at hl ⊢
  exact h p e s m _ below meth c ⟨B.exec, B.bytes, hml, B.returns, B.notSynchronized, findClass_of_methodNamed B.named, fun w hw => hts w (List.mem_cons_of_mem _ hw), hX⟩ s.heap [] ls hP va_S.rf hl
theorem zgoT {lv : List (Nat × Value)} {st : List Value} {J : Option Value → zM → Prop} {p : Program} {e : Env} {s : State} {m : MethodId} {args : Array Value} {below : List Frame} {meth : Method} {c : Code} {H : Heap} {locs : List Loc} {ls : Array Slot} {st0 : List Value} {a : Array Value}
    (C : zC κ Y p s m args meth c) (hS : va_S (zA κ) s.heap H locs) (hl : lv_has ls Y.2.2.1 lv)
    (hr : va_Run p κ.1 e (zrm d) s m args below meth c H locs 0 0 0 0 (F0 m pc ls st0) st (zJ κ (fun r m' => zT κ d Y (pc + 3) lv (r.toList ++ st) m' J) a) (zA κ)) :
    W p κ.1 e (zrm d) s m args below meth c H locs 0 0 (MQ below (zJ κ J) args s 0 0 (zA κ)) (F0 m pc ls st0) := by
  intro T hT X
  obtain ⟨v, st₀, t, T', L', h0, X', hL, e1, e2, ⟨⟨r, mem', hv, hq, hP'⟩, hz, hk⟩, st⟩ := hr T hT X
  cases hv
  rw [h0] at hz hk
  obtain ⟨t2, a1, b1⟩ := hq p e s m args below meth c C T'.heap (locs ++ L') ls (by rw [e1]; exact hP')
    ⟨Nat.le_trans hS.1 (by rw [e1]; exact hz), fun q h1 h2 => by rw [e1, hk q (Nat.lt_of_lt_of_le h1 hS.1) h2]; exact hS.2.1 q h1 h2, fun q hq => by
      rcases List.mem_append.mp hq with h | h
      · exact hS.2.2 q h
      · exact hL q h⟩ hl T' rfl X'
  exact ⟨t2, st t2 a1, b1⟩
theorem zT_callS {n idx : Nat} {As : List Value} {lv : List (Nat × Value)} {J : Option Value → zM → Prop} (hY : zCS Y' n) (hlk : Cond.methodLink Y.1.cls idx Y'.1 ∈ zGW) (hd : decode Y.2.1 pc = .ok (.invokestatic idx, 3)) (hn : As.length = n) (hA : (lg_sl As).length ≤ Y'.2.2.1)
    (h : zT κ d Y' 0 (lv_args 0 As) [] mem (fun r m' => zT κ (d + 1) Y (pc + 3) lv (r.toList ++ []) m' J)) : zT κ (d + 1) Y pc lv As.reverse mem J := by
  intro p e s m args below meth c C H locs ls hP hS hl
  obtain ⟨y1, y2, y4, y5, y6, y7, y8⟩ := hY
  have hM := zMetT (As := As) y6 hA h
  have hts := C.2.2.2.2.2.2.1
  refine zgoT C hS hl (va_runS (As := As) (Ts := zGW) (own := Y.1.cls) (index := idx) (n := n) (bytes := Y'.2.1) (maxL := Y'.2.2.1) (ret := Y'.2.2.2) (nL := Y.2.2.1) (cc := Y.2.1) (rest := [])
    ⟨C.1, C.2.1, C.2.2.1, C.2.2.2.2.2.1, hts⟩ hM (va_cwS (ws' := zGW) n hts (zgood ?_) rfl rfl rfl y5 (zfit y7)) ⟨zblindv, fun U hU hW => ⟨rfl, by rw [hU]; exact hP, zX_warm hW (by rw [hU]; exact hS) C.2.2.2.2.2.2.2⟩⟩ rfl hn hl.1 (by simp) (zroom (κ := κ) (S := []) (Nat.zero_le _)) hd ⟨Nat.le_refl _, Nat.le_refl _⟩)
  intro w hw
  simp only [va_wsS, zws, List.mem_append, List.mem_cons, List.not_mem_nil, or_false] at hw
  rcases hw with (rfl | rfl | rfl) | rfl | hw
  · exact hlk
  · exact y2
  · exact y4
  · exact y1
  · exact hw
end zRaw
