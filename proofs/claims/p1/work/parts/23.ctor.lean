/-! the constructors' logic: a world that grows; every constructor gets the whole world and gives it back, its own object changed in place, the new cells behind it -/
section zNew
abbrev nX (κ : zK) (s : State) : Prop := va_K κ.2.1 zCl [(κ.2.2.2, .int)] s ∧ (∀ w ∈ zNW, va_Nw w s)
abbrev nC (κ : zK) (Y : zY) (p : Program) (s : State) (m : MethodId) (args : Array Value) (meth : Method) (c : Code) : Prop :=
  p.tables.exec = Jvm.exec ∧ c.code = Y.2.1 ∧ c.maxLocals = Y.2.2.1 ∧ meth.sig.returnType = Y.2.2.2 ∧ meth.locks = false ∧ s.vm.findClass Y.1.cls = some m.cls ∧ (∀ w ∈ zGW, w.before args s = true) ∧ nX κ s ∧ meth.name = "<init>"
def nQ (κ : zK) (F : Nat → Prop) (Q : va_W → Prop) : Array Value → State → Outcome → State → Prop := fun _ st oc t =>
  (oc = .returned none ∧ ∃ w, Q w ∧ va_P κ.2.1 zCl w t.heap ∧ va_D F w) ∧ va_F F st t
def nrm (d mc ms : Nat) : Room := { frames := d, cells := mc, slots := ms, locals := 40 * d }
def zN (κ : zK) (d : Nat) (Y : zY) (pc : Nat) (A S : List Value) (w : va_W) (k n mc ms : Nat) (Q : va_W → Prop) : Prop :=
  ∀ (p : Program) (e : Env) (s : State) (m : MethodId) (args : Array Value) (below : List Frame) (meth : Method) (c : Code), nC κ Y p s m args meth c →
    ∀ (H : Heap) (locs : List Loc) (ls : Array Slot) (F : Nat → Prop), va_P κ.2.1 zCl w H → va_D F w → va_S F s.heap H locs → (∀ q : Nat, s.heap.size ≤ q → F q) →
      (ls.size = Y.2.2.1 ∧ ∀ (i : Nat) (v : Value), A[i]? = some v → ls[i]? = some (.val v)) →
      W p κ.1 e (nrm d mc ms) s m args below meth c H locs k n (MQ below (nQ κ F Q) args s mc ms F) (F0 m pc ls S)
theorem nX_same {κ : zK} {u U : State} (hv : u.vm = U.vm) (h : nX κ u) : nX κ U := by
  have ha : u.vm.Alike U.vm := by rw [hv]; exact Vm.Alike.refl _
  exact ⟨va_K.moved ha h.1, fun w hw => va_Nw.same (zNW_tab hw) hv (h.2 w hw)⟩
theorem nX_warm {κ : zK} {s U : State} (hW : s.WarmedH U.vm) (h : nX κ s) : nX κ U := ⟨va_K.moved hW.alike h.1, fun w hw => zNW_moved hW hw (h.2 w hw)⟩
abbrev nPc (κ : zK) (A : List Value) (w : va_W) (sz : Nat) : Array Value → State → Prop := va_Pc A (fun U => U.heap.size = sz ∧ va_P κ.2.1 zCl w U.heap ∧ va_D (fun _ => True) w ∧ nX κ U)
theorem nblind {κ : zK} {A : List Value} {w : va_W} {sz : Nat} : FrameBlind (nPc κ A w sz) := fun _ U _ _ q => ⟨q.1, q.2.1, q.2.2.1, q.2.2.2.1, nX_same (u := U) rfl q.2.2.2.2⟩
theorem nargs : ∀ (A : List Value) (i j : Nat) (v : Value), (∀ v ∈ A, v.category = 1) → A[j]? = some v → (i + j, v) ∈ lv_args i A := by
  intro A
  induction A with
  | nil => intro i j v _ h; simp at h
  | cons a A ih =>
    intro i j v hc h
    show (i + j, v) ∈ (i, a) :: lv_args (if a.category = 2 then i + 2 else i + 1) A
    rw [if_neg (by rw [hc a List.mem_cons_self]; decide)]
    cases j with
    | zero =>
      have e : a = v := by simpa using h
      rw [e]
      exact List.mem_cons_self
    | succ j =>
      have h1 := ih (i + 1) j v (fun v hv => hc v (List.mem_cons_of_mem _ hv)) (by simpa using h)
      rw [show i + (j + 1) = i + 1 + j from by omega]
      exact List.mem_cons_of_mem _ h1
theorem nsl : ∀ (A : List Value), (∀ v ∈ A, v.category = 1) → (lg_sl A).length = A.length := by
  intro A
  induction A with
  | nil => intro _; rfl
  | cons a A ih =>
    intro hc
    have e : lg_sl (a :: A) = (if a.category = 2 then [.val a, .second] else [.val a]) ++ lg_sl A := rfl
    rw [e, if_neg (by rw [hc a List.mem_cons_self]; decide), List.length_append, ih (fun v hv => hc v (List.mem_cons_of_mem _ hv)), List.length_cons, List.length_cons, List.length_nil]
    omega
theorem nMet {κ : zK} {d mc ms sz : Nat} {Y : zY} {A : List Value} {w : va_W} {Q : va_W → Prop} (hy : plainName Y.1.cls = true) (hi : Y.1.name = "<init>") (hc : ∀ v ∈ A, v.category = 1) (hA : A.length ≤ Y.2.2.1) (h : zN κ d Y 0 A [] w 0 0 mc ms Q) :
    Met κ.1 Y.1 (zws Y) (nrm d mc ms) (nPc κ A w sz) (nQ κ (va_A w sz) Q) mc ms (va_A w sz) := by
  refine Met.ofW (cc := Y.2.1) (maxL := Y.2.2.1) (ret := Y.2.2.2) hy rfl ?_
  intro p e s m args below meth c s₁ B hml hv
  obtain ⟨rfl, hsz, hP, hD, hX⟩ := hv
  subst hsz
  have hts := atoms_spec (ws := zws Y) B.pre
  have hl := lv_entry A (n := Y.2.2.1) (by rw [nsl A hc]; exact hA)
  rw [lg_entry_eq]
  generalize (lg_sl A ++ List.replicate (Y.2.2.1 - (lg_sl A).length) Slot.unset).toArray = ls at hl ⊢
  refine h p e s m _ below meth c ⟨B.exec, B.bytes, hml, B.returns, B.notSynchronized, findClass_of_methodNamed B.named, fun w hw => hts w (List.mem_cons_of_mem _ hw), hX, (name_of_methodNamed B.named B.method).1.trans hi⟩ s.heap [] ls _ hP hD.self va_S.rf (fun q hq => Or.inr hq) ⟨hl.1, fun i v hv => ?_⟩
  have h1 := nargs A 0 i v hc hv
  rw [Nat.zero_add] at h1
  exact hl.2.2 _ h1
section
variable {κ : zK} {d pc k n mc ms : Nat} {Y : zY} {A S : List Value} {w : va_W} {Q : va_W → Prop}
theorem zN_aload {j : Fin 4} {i x : Nat} (hd : decode Y.2.1 pc = .ok (.aload_n j, 1)) (hi : (j : Nat) = i) (hA : A[i]? = some (.ref x)) (kk : zN κ d Y (pc + 1) A (.ref x :: S) w k n mc ms Q) : zN κ d Y pc A S w k n mc ms Q := by
  intro p e s m args below meth c C H locs ls F hP hD hS hF hl
  exact lv_aload_n C.1 C.2.1 hd hi (hl.2 i _ hA) (kk p e s m args below meth c C H locs ls F hP hD hS hF hl)
theorem zN_iload {j : Fin 4} {i : Nat} {x : Int32} (hd : decode Y.2.1 pc = .ok (.iload_n j, 1)) (hi : (j : Nat) = i) (hA : A[i]? = some (.int x)) (kk : zN κ d Y (pc + 1) A (.int x :: S) w k n mc ms Q) : zN κ d Y pc A S w k n mc ms Q := by
  intro p e s m args below meth c C H locs ls F hP hD hS hF hl
  exact lv_iload_n C.1 C.2.1 hd hi (hl.2 i _ hA) (kk p e s m args below meth c C H locs ls F hP hD hS hF hl)
theorem zN_iconst {z : Int} {v : Int32} (hd : decode Y.2.1 pc = .ok (.iconst z, 1)) (hv : Int32.ofInt z = v) (kk : zN κ d Y (pc + 1) A (.int v :: S) w k n mc ms Q) : zN κ d Y pc A S w k n mc ms Q := by
  intro p e s m args below meth c C H locs ls F hP hD hS hF hl
  exact lv_iconst C.1 C.2.1 hd hv (kk p e s m args below meth c C H locs ls F hP hD hS hF hl)
theorem zN_bipush {z : Int} {v : Int32} (hd : decode Y.2.1 pc = .ok (.bipush z, 2)) (hv : (Int8.ofInt z).toInt32 = v) (kk : zN κ d Y (pc + 2) A (.int v :: S) w k n mc ms Q) : zN κ d Y pc A S w k n mc ms Q := by
  intro p e s m args below meth c C H locs ls F hP hD hS hF hl
  exact lv_bipush C.1 C.2.1 hd hv (kk p e s m args below meth c C H locs ls F hP hD hS hF hl)
theorem zN_sipush {z : Int} {v : Int32} (hd : decode Y.2.1 pc = .ok (.sipush z, 3)) (hv : (Int16.ofInt z).toInt32 = v) (kk : zN κ d Y (pc + 3) A (.int v :: S) w k n mc ms Q) : zN κ d Y pc A S w k n mc ms Q := by
  intro p e s m args below meth c C H locs ls F hP hD hS hF hl
  exact lv_sipush C.1 C.2.1 hd hv (kk p e s m args below meth c C H locs ls F hP hD hS hF hl)
theorem zN_dup {v : Value} (hd : decode Y.2.1 pc = .ok (.dup, 1)) (hv : v.category = 1) (kk : zN κ d Y (pc + 1) A (v :: v :: S) w k n mc ms Q) : zN κ d Y pc A (v :: S) w k n mc ms Q := by
  intro p e s m args below meth c C H locs ls F hP hD hS hF hl
  exact lv_dup C.1 C.2.1 hd hv (kk p e s m args below meth c C H locs ls F hP hD hS hF hl)
theorem zN_objInit {idx x : Nat} (hd : decode Y.2.1 pc = .ok (.invokespecial idx, 3)) (hlk : Cond.methodLink Y.1.cls idx Lib.objectInit ∈ zGW) (hS1 : (S.map fun v => v.category).sum ≤ 8) (hd1 : 1 ≤ d) (kk : zN κ d Y (pc + 3) A S w k n mc ms Q) : zN κ d Y pc A (.ref x :: S) w k n mc ms Q := by
  intro p e s m args below meth c C H locs ls F hP hD hS hF hl
  have hts := C.2.2.2.2.2.2.1
  refine W.objInit C.1 C.2.1 C.2.2.2.2.2.1 (hts _ hlk) (hts _ zObj.1) (hts _ zObj.2) rfl (by rw [C.2.2.1]; exact hl.1) rfl hd hd1 ?_ ?_
  · show 2 * 0 + _ + 12 ≤ 40 * d
    omega
  · exact kk p e s m args below meth c C H locs ls F hP hD hS hF hl
theorem zN_newa {N : Nat} {v : Int32} (hd : decode Y.2.1 pc = .ok (.newarray .int, 2)) (hv : ¬ v < 0) (hN : v.toNatClampNeg = N) (hb : N ≤ 4000) (hk : k + 1 ≤ mc) (hn : n + N ≤ ms) (kk : ∀ q : Nat, zN κ d Y (pc + 2) A (.ref q :: S) (w ++ [(q, .inl (κ.2.2.2, N, .inl (fun _ => 0)))]) (k + 1) (n + N) mc ms Q) : zN κ d Y pc A (.int v :: S) w k n mc ms Q := by
  intro p e s m args below meth c C H locs ls F hP hD hS hF hl
  have hts := C.2.2.2.2.2.2.1
  have hK := C.2.2.2.2.2.2.2.1.1
  refine va_newa (atype := .int) (a0 := (N, .inl (fun _ => 0))) C.1 C.2.1 (hts _ zArr) rfl hK hP hD hS hF (fun _ => rfl) hv hN ?_ hk hn hd (fun q cA H1 hK1 hP1 hD1 hS1 => ?_)
  · show N * 4 ≤ 536870912
    omega
  · have e1 : s.vm.findClass ("[" ++ FieldType.int.toString) = some cA := (hK1.2 1 _ rfl).2
    have e2 : s.vm.findClass ("[" ++ FieldType.int.toString) = some κ.2.2.2 := (hK.2 0 _ rfl).2
    have e3 : cA = κ.2.2.2 := Option.some.inj (e1.symm.trans e2)
    subst e3
    exact kk q p e s m args below meth c C H1 locs ls F hP1 hD1 hS1 hF hl
theorem zN_new {ci idx N : Nat} {C : String} {T : u_T} (ty : Nat → FieldType) {fs : List Value} (hd : decode Y.2.1 pc = .ok (.new idx, 3)) (hc : zCl[ci]? = some (C, T, N)) (hty : ∀ j, j < N → parseFieldDescriptor (T j).2.2.1 = some (ty j)) (hfs : ∀ j, j < N → defaultValue (ty j) = vp_V fs j) (hlk : Cond.classLink Y.1.cls idx C ∈ zGW) (h1 : Cond.instantiable C N ∈ zGW) (h2 : Cond.initialized C ∈ zGW) (hk : k + 1 ≤ mc) (hn : n + N ≤ ms) (kk : ∀ q : Nat, zN κ d Y (pc + 3) A (.ref q :: S) (w ++ [(q, .inr (ci, fs))]) (k + 1) (n + N) mc ms Q) : zN κ d Y pc A S w k n mc ms Q := by
  intro p e s m args below meth c C0 H locs ls F hP hD hS hF hl
  have hts := C0.2.2.2.2.2.2.1
  exact va_new C0.1 C0.2.1 hts (zLay hc) ty hty C0.2.2.2.2.2.1 (hts _ hlk) (hts _ h1) (hts _ h2) C0.2.2.2.2.2.2.2.1.1 hP hD hS hF hc hfs hk hn hd (fun q H1 hP1 hD1 hS1 => kk q p e s m args below meth c C0 H1 locs ls F hP1 hD1 hS1 hF hl)
theorem zN_put {q0 x ci j idx : Nat} {fs : List Value} {r : vw_C} {v : Value} {ty : FieldType} (hd : decode Y.2.1 pc = .ok (.putfield idx, 3)) (he : w[q0]? = some (x, .inr (ci, fs))) (hc : zCl[ci]? = some r) (hjN : j < r.2.2) (hfin : (r.2.1 j).2.2.2 = false) (hty : parseFieldDescriptor (r.2.1 j).2.2.1 = some ty) (hlk : Cond.fieldLink Y.1.cls idx (r.2.1 j).1 (r.2.1 j).2.1 (r.2.1 j).2.2.1 ∈ zGW) (hv : narrow ty v = v ∧ fits ty v = true) (hl0 : j < fs.length) (kk : zN κ d Y (pc + 3) A S (w.set q0 (x, .inr (ci, fs.set j v))) k n mc ms Q) : zN κ d Y pc A (v :: .ref x :: S) w k n mc ms Q := by
  intro p e s m args below meth c C H locs ls F hP hD hS hF hl
  have hts := C.2.2.2.2.2.2.1
  obtain ⟨tyF, ht1, ht2⟩ := zOK hc
  exact va_put C.1 C.2.1 hts (zLay hc) tyF ht1 ht2 C.2.2.2.2.2.1 C.2.2.2.2.2.2.2.1.1 hP hD hS q0 he hc j hjN (hts _ hlk) (fun _ h => h) hfin hty hv.1 hv.2 hl0 hd (fun H1 locs1 hP1 hD1 hS1 => kk p e s m args below meth c C H1 locs1 ls F hP1 hD1 hS1 hF hl)
theorem zN_putF {q0 x ci j idx : Nat} {fs : List Value} {r : vw_C} {v : Value} {ty : FieldType} (hd : decode Y.2.1 pc = .ok (.putfield idx, 3)) (he : w[q0]? = some (x, .inr (ci, fs))) (hc : zCl[ci]? = some r) (hjN : j < r.2.2) (hfin : (r.2.1 j).2.2.2 = true) (hdecl : (r.2.1 j).1 = Y.1.cls) (hty : parseFieldDescriptor (r.2.1 j).2.2.1 = some ty) (hlk : Cond.fieldLink Y.1.cls idx (r.2.1 j).1 (r.2.1 j).2.1 (r.2.1 j).2.2.1 ∈ zGW) (hv : narrow ty v = v ∧ fits ty v = true) (hl0 : j < fs.length) (kk : zN κ d Y (pc + 3) A S (w.set q0 (x, .inr (ci, fs.set j v))) k n mc ms Q) : zN κ d Y pc A (v :: .ref x :: S) w k n mc ms Q := by
  intro p e s m args below meth c C H locs ls F hP hD hS hF hl
  have hts := C.2.2.2.2.2.2.1
  obtain ⟨tyF, ht1, ht2⟩ := zOK hc
  exact va_putF C.1 C.2.1 hts (zLay hc) tyF ht1 ht2 C.2.2.2.2.2.1 C.2.2.2.2.2.2.2.1.1 hP hD hS q0 he hc j hjN (hts _ hlk) (fun _ h => h) hfin C.2.2.2.2.2.2.2.2 hdecl hty hv.1 hv.2 hl0 hd (fun H1 locs1 hP1 hD1 hS1 => kk p e s m args below meth c C H1 locs1 ls F hP1 hD1 hS1 hF hl)
theorem zN_ret (hr : Y.2.2.2 = none) (hd : decode Y.2.1 pc = .ok (.return_, 1)) (hq : Q w) : zN κ d Y pc A [] w mc ms mc ms Q := by
  intro p e s m args below meth c C H locs ls F hP hD hS hF hl
  exact W.vret C.1 C.2.1 (C.2.2.2.1.trans hr) (fun t ht hW => ⟨⟨rfl, w, hq, by rw [ht]; exact hP, hD⟩, hS.F ht⟩) hS.2.2 hd C.2.2.2.2.1
/-- what a constructor's words must be -/
abbrev nCI (Y : zY) (n : Nat) : Prop := Y.2.2.2 = none ∧ Cond.code Y.1 Y.2.1 Y.2.2.1 none ∈ zGW ∧ Cond.instanceMethod Y.1 ∈ zGW ∧ Cond.initialized Y.1.cls ∈ zGW ∧ zCD Y n ∧ plainName Y.1.cls = true ∧ Y.2.2.1 ≤ 21 ∧ n + 1 ≤ Y.2.2.1 ∧ Y.1.name = "<init>"
theorem nfit {d mc ms mc' ms' a : Nat} (h : a ≤ 21) : (nrm d mc' ms').frames + 1 ≤ (nrm (d + 1) mc ms).frames ∧ 8 + (a + 11) + (nrm d mc' ms').locals ≤ (nrm (d + 1) mc ms).locals := by
  refine ⟨Nat.le_refl _, ?_⟩
  show 8 + (a + 11) + 40 * d ≤ 40 * (d + 1)
  omega
/-- behind a constructor's call -/
theorem ngo {p : Program} {e : Env} {s : State} {m : MethodId} {args : Array Value} {below : List Frame} {meth : Method} {c : Code} {H : Heap} {locs : List Loc} {ls : Array Slot} {F : Nat → Prop} {st0 : List Value} {a : Array Value} {mc' ms' : Nat} {R : Room} {Z : State → Prop} {Q' : va_W → Prop}
    (hP : va_P κ.2.1 zCl w H) (hD : va_D F w) (hS : va_S F s.heap H locs) (hF : ∀ q : Nat, s.heap.size ≤ q → F q)
    (hr : va_Run p κ.1 e R s m args below meth c H locs k n mc' ms' (F0 m pc ls st0) S (nQ κ (va_A w H.size) Q' a) (va_A w H.size))
    (kk : ∀ (w' : va_W) (H1 : Heap) (locs1 : List Loc), Q' w' → va_P κ.2.1 zCl w' H1 → va_D F w' → va_S F s.heap H1 locs1 → W p κ.1 e R s m args below meth c H1 locs1 (k + mc') (n + ms') Z (F0 m (pc + 3) ls S)) :
    W p κ.1 e R s m args below meth c H locs k n Z (F0 m pc ls st0) := by
  intro T hT X
  obtain ⟨v, st₀, t, T', L', h0, X', hL, e1, e2, ⟨⟨hv, w', hq, hP', hD'⟩, hz, hk⟩, st⟩ := hr T hT X
  cases hv
  rw [h0] at hz hk
  have hAF : ∀ q, va_A w H.size q → F q := by
    intro q hq
    rcases hq with ⟨i, x, hx⟩ | hq
    · exact hD.2 i _ hx
    · exact hF q (Nat.le_trans hS.1 hq)
  obtain ⟨t2, a1, b1⟩ := kk w' T'.heap (locs ++ L') hq (by rw [e1]; exact hP') (hD'.weaken (fun _ q _ h => hAF q.1 h))
    ⟨Nat.le_trans hS.1 (by rw [e1]; exact hz), fun q h1 h2 => by rw [e1, hk q (Nat.lt_of_lt_of_le h1 hS.1) (fun z => h2 (hAF q z))]; exact hS.2.1 q h1 h2, fun q hq => by
      rcases List.mem_append.mp hq with h | h
      · exact hS.2.2 q h
      · exact hAF _ (hL q h)⟩ T' rfl X'
  exact ⟨t2, st t2 a1, b1⟩
theorem zN_callI {Y' : zY} {x idx na mc' ms' : Nat} {As : List Value} {S0 : List Value} (hY : nCI Y' na) (hlk : Cond.methodLink Y.1.cls idx Y'.1 ∈ zGW) (hd : decode Y.2.1 pc = .ok (.invokespecial idx, 3)) (hn : As.length = na) (hca : ∀ v ∈ As, v.category = 1) (h8 : (S.map fun v => v.category).sum ≤ 8) (hS0 : S0 = As.reverse ++ .ref x :: S) (hk : k + mc' ≤ mc) (hm : n + ms' ≤ ms)
    (h : zN κ d Y' 0 (.ref x :: As) [] w 0 0 mc' ms' (fun w' => zN κ (d + 1) Y (pc + 3) A S w' (k + mc') (n + ms') mc ms Q)) : zN κ (d + 1) Y pc A S0 w k n mc ms Q := by
  subst hS0
  intro p e s m args below meth c C H locs ls F hP hD hS hF hl
  obtain ⟨y0, y1, y2, y4, y5, y6, y7, y8, y9⟩ := hY
  have hts := C.2.2.2.2.2.2.1
  have hM := nMet (sz := H.size) y6 y9 (fun v hv => (List.mem_cons.mp hv).elim (fun h => by rw [h]; rfl) (hca v)) (by rw [List.length_cons, hn]; exact y8) h
  refine ngo hP hD hS hF (va_runI (As := As) (b := x) (Ts := zGW) (own := Y.1.cls) (index := idx) (n := na) (bytes := Y'.2.1) (maxL := Y'.2.2.1) (nL := Y.2.2.1) (cc := Y.2.1) (rest := S)
    ⟨C.1, C.2.1, C.2.2.1, C.2.2.2.2.2.1, hts⟩ hM (cwI (ws' := zGW) na hts (zgood ?_) (by rw [zws, y0]) rfl rfl (hts _ y4) (hts _ hlk) (hts _ y2) y9 y5 (nfit y7)) ⟨nblind, fun U hU hW => ⟨rfl, by rw [hU], by rw [hU]; exact hP, hD.weaken (fun _ _ _ _ => trivial), nX_warm hW C.2.2.2.2.2.2.2.1⟩⟩ rfl hn hl.1 rfl (lv_room h8) hd ⟨hk, hm⟩)
    (fun w' H1 locs1 hq hP1 hD1 hS1 => hq p e s m args below meth c C H1 locs1 ls F hP1 hD1 hS1 hF hl)
  intro w hw
  rcases List.mem_cons.mp hw with rfl | hw
  · rw [y0]; exact y1
  · exact hw
theorem zN_callIN {Y' : zY} {host : String} {x idx na mc' ms' : Nat} {As : List Value} {S0 : List Value} (hY : nCI Y' na) (hlk : Cond.methodLinkNest Y.1.cls idx Y'.1 host ∈ zNW) (hd : decode Y.2.1 pc = .ok (.invokespecial idx, 3)) (hn : As.length = na) (hca : ∀ v ∈ As, v.category = 1) (h8 : (S.map fun v => v.category).sum ≤ 8) (hS0 : S0 = As.reverse ++ .ref x :: S) (hk : k + mc' ≤ mc) (hm : n + ms' ≤ ms)
    (h : zN κ d Y' 0 (.ref x :: As) [] w 0 0 mc' ms' (fun w' => zN κ (d + 1) Y (pc + 3) A S w' (k + mc') (n + ms') mc ms Q)) : zN κ (d + 1) Y pc A S0 w k n mc ms Q := by
  subst hS0
  intro p e s m args below meth c C H locs ls F hP hD hS hF hl
  obtain ⟨y0, y1, y2, y4, y5, y6, y7, y8, y9⟩ := hY
  have hts := C.2.2.2.2.2.2.1
  have hM := nMet (sz := H.size) y6 y9 (fun v hv => (List.mem_cons.mp hv).elim (fun h => by rw [h]; rfl) (hca v)) (by rw [List.length_cons, hn]; exact y8) h
  refine ngo hP hD hS hF (va_runIN (As := As) (b := x) (Ts := zGW) (own := Y.1.cls) (index := idx) (n := na) (bytes := Y'.2.1) (maxL := Y'.2.2.1) (nL := Y.2.2.1) (cc := Y.2.1) (rest := S)
    ⟨C.1, C.2.1, C.2.2.1, C.2.2.2.2.2.1, hts⟩ hM ⟨va_cnB (ws' := zGW) na hts (zgood ?_) (by rw [zws, y0]) rfl rfl (C.2.2.2.2.2.2.2.1.2 _ hlk) (hts _ y4) y5 (nfit y7), y9, hts _ y2⟩ ⟨nblind, fun U hU hW => ⟨rfl, by rw [hU], by rw [hU]; exact hP, hD.weaken (fun _ _ _ _ => trivial), nX_warm hW C.2.2.2.2.2.2.2.1⟩⟩ rfl hn hl.1 rfl (lv_room h8) hd ⟨hk, hm⟩)
    (fun w' H1 locs1 hq hP1 hD1 hS1 => hq p e s m args below meth c C H1 locs1 ls F hP1 hD1 hS1 hF hl)
  intro w hw
  rcases List.mem_cons.mp hw with rfl | hw
  · rw [y0]; exact y1
  · exact hw
end
end zNew
