/-! the law's own logic: behind the constructors; the script lies at place 3000 -/
section zLaw
def zdd : Nat := 11
abbrev lC (κ : zK) (p : Program) (s : State) (m : MethodId) (meth : Method) (c : Code) (b n : Nat) (xs : Nat → Int32) : Prop :=
  lw_At p s m meth c b n xs ∧ zX κ s ∧ (∀ q : Nat, zA κ q → s.heap.size ≤ q) ∧ κ.2.2.1 3000 = b
def zL (κ : zK) (b n : Nat) (xs : Nat → Int32) (pc : Nat) (L : List (Option zV)) (S : List zV) (mem : zM) : Prop :=
  ∀ (p : Program) (e : Env) (s : State) (m : MethodId) (below : List Frame) (meth : Method) (c : Code), lC κ p s m meth c b n xs →
    ∀ (H : Heap) (locs : List Loc) (ls : Array Slot), va_P κ.2.1 zCl (zw κ mem) H → va_S (fun q => s.heap.size ≤ q) s.heap H locs → lv_has ls 4 (zl κ 0 L) →
      W p κ.1 e room_1 s m #[Value.ref b] below meth c H locs zcel zslo (lw_Z below #[Value.ref b] s) (F0 m pc ls (S.map (zv κ)))
section
variable {κ : zK} {b n pc : Nat} {xs : Nat → Int32} {L : List (Option zV)} {S : List zV} {mem : zM}
theorem zL_drop (i : Nat) (h : zL κ b n xs pc (L.set i none) S mem) : zL κ b n xs pc L S mem := by
  intro p e s m below meth c C H locs ls hP hS hl
  refine h p e s m below meth c C H locs ls hP hS (zl_weak hl (fun j v hj => ?_))
  rw [List.getElem?_set] at hj
  split at hj
  · split at hj <;> cases hj
  · exact hj
theorem zL_iconst {z : Int} {v : Int32} (hd : decode code pc = .ok (.iconst z, 1)) (hv : Int32.ofInt z = v) (k : zL κ b n xs (pc + 1) L (.inl v :: S) mem) : zL κ b n xs pc L S mem := by
  intro p e s m below meth c C H locs ls hP hS hl
  exact lv_iconst C.1.1 C.1.2.1 hd hv (k p e s m below meth c C H locs ls hP hS hl)
theorem zL_bipush {z : Int} {v : Int32} (hd : decode code pc = .ok (.bipush z, 2)) (hv : (Int8.ofInt z).toInt32 = v) (k : zL κ b n xs (pc + 2) L (.inl v :: S) mem) : zL κ b n xs pc L S mem := by
  intro p e s m below meth c C H locs ls hP hS hl
  exact lv_bipush C.1.1 C.1.2.1 hd hv (k p e s m below meth c C H locs ls hP hS hl)
theorem zL_iload_n {j : Fin 4} {i : Nat} {x : Int32} (hd : decode code pc = .ok (.iload_n j, 1)) (hi : (j : Nat) = i) (hL : L[i]? = some (some (.inl x))) (k : zL κ b n xs (pc + 1) L (.inl x :: S) mem) : zL κ b n xs pc L S mem := by
  intro p e s m below meth c C H locs ls hP hS hl
  exact lv_iload_n C.1.1 C.1.2.1 hd hi (zl_at hl hL) (k p e s m below meth c C H locs ls hP hS hl)
theorem zL_aload_n {j : Fin 4} {i q : Nat} (hd : decode code pc = .ok (.aload_n j, 1)) (hi : (j : Nat) = i) (hL : L[i]? = some (some (.inr q))) (k : zL κ b n xs (pc + 1) L (.inr q :: S) mem) : zL κ b n xs pc L S mem := by
  intro p e s m below meth c C H locs ls hP hS hl
  exact lv_aload_n C.1.1 C.1.2.1 hd hi (zl_at hl hL) (k p e s m below meth c C H locs ls hP hS hl)
theorem zL_istore_n {j : Fin 4} {i : Nat} {x : Int32} (hd : decode code pc = .ok (.istore_n j, 1)) (hi : (j : Nat) = i) (hn : i < 4) (k : zL κ b n xs (pc + 1) (L.set i (some (.inl x))) S mem) : zL κ b n xs pc L (.inl x :: S) mem := by
  intro p e s m below meth c C H locs ls hP hS hl
  exact lv_istore_n C.1.1 C.1.2.1 hd hi hl hn rfl (fun ls' hl' => k p e s m below meth c C H locs ls' hP hS (zl_store (v := .inl x) hl'))
theorem zL_iinc {i : Nat} {z : Int} {x v : Int32} (hd : decode code pc = .ok (.iinc i z, 3)) (hL : L[i]? = some (some (.inl x))) (hv : Int32.ofInt z = v) (hn : i < 4) (k : zL κ b n xs (pc + 3) (L.set i (some (.inl (x + v)))) S mem) : zL κ b n xs pc L S mem := by
  subst hv
  intro p e s m below meth c C H locs ls hP hS hl
  obtain ⟨j, hj⟩ := List.getElem?_of_mem ((zl_mem (κ := κ) L 0 (i, .int x)).mpr ⟨i, .inl x, hL, by rw [Nat.zero_add]; rfl⟩)
  exact lv_iinc C.1.1 C.1.2.1 hd hl hj rfl hn rfl (fun ls' hl' => k p e s m below meth c C H locs ls' hP hS (zl_store (v := .inl _) hl'))
theorem zL_iadd {x y : Int32} (hd : decode code pc = .ok (.iadd, 1)) (k : zL κ b n xs (pc + 1) L (.inl (x + y) :: S) mem) : zL κ b n xs pc L (.inl y :: .inl x :: S) mem := by
  intro p e s m below meth c C H locs ls hP hS hl
  exact lv_iadd C.1.1 C.1.2.1 hd (k p e s m below meth c C H locs ls hP hS hl)
theorem zL_isub {x y : Int32} (hd : decode code pc = .ok (.isub, 1)) (k : zL κ b n xs (pc + 1) L (.inl (x - y) :: S) mem) : zL κ b n xs pc L (.inl y :: .inl x :: S) mem := by
  intro p e s m below meth c C H locs ls hP hS hl
  exact lv_isub C.1.1 C.1.2.1 hd (k p e s m below meth c C H locs ls hP hS hl)
theorem zL_iand {x y : Int32} (hd : decode code pc = .ok (.iand, 1)) (k : zL κ b n xs (pc + 1) L (.inl (x &&& y) :: S) mem) : zL κ b n xs pc L (.inl y :: .inl x :: S) mem := by
  intro p e s m below meth c C H locs ls hP hS hl
  exact lv_iand C.1.1 C.1.2.1 hd (k p e s m below meth c C H locs ls hP hS hl)
theorem zL_goto {off : Int} {tgt : Nat} (hd : decode code pc = .ok (.goto off, 3)) (ht : (pc : Int) + off = (tgt : Int)) (k : zL κ b n xs tgt L S mem) : zL κ b n xs pc L S mem := by
  intro p e s m below meth c C H locs ls hP hS hl
  exact lv_goto C.1.1 C.1.2.1 hd ht (k p e s m below meth c C H locs ls hP hS hl)
theorem zL_icmp_eq {x y : Int32} {off : Int} {tgt : Nat} (hd : decode code pc = .ok (.if_icmp .eq off, 3)) (ht : (pc : Int) + off = (tgt : Int)) (kt : x = y → zL κ b n xs tgt L S mem) (kf : ¬ x = y → zL κ b n xs (pc + 3) L S mem) : zL κ b n xs pc L (.inl y :: .inl x :: S) mem := by
  intro p e s m below meth c C H locs ls hP hS hl
  exact lv_icmp_eq C.1.1 C.1.2.1 hd ht (fun h => kt h p e s m below meth c C H locs ls hP hS hl) (fun h => kf h p e s m below meth c C H locs ls hP hS hl)
theorem zL_icmp_gt {x y : Int32} {off : Int} {tgt : Nat} (hd : decode code pc = .ok (.if_icmp .gt off, 3)) (ht : (pc : Int) + off = (tgt : Int)) (kt : y < x → zL κ b n xs tgt L S mem) (kf : ¬ y < x → zL κ b n xs (pc + 3) L S mem) : zL κ b n xs pc L (.inl y :: .inl x :: S) mem := by
  intro p e s m below meth c C H locs ls hP hS hl
  exact lv_icmp_gt C.1.1 C.1.2.1 hd ht (fun h => kt h p e s m below meth c C H locs ls hP hS hl) (fun h => kf h p e s m below meth c C H locs ls hP hS hl)
theorem zL_swIn {dflt lo hi : Int} {offs : Array Int} {len : Nat} {x : Int32} {off : Int} {tgt : Nat} (hd : decode code pc = .ok (.tableswitch dflt lo hi offs, len)) (h1 : ¬ x.toInt < lo) (h2 : ¬ hi < x.toInt) (ho : offs[(x.toInt - lo).toNat]? = some off) (ht : (pc : Int) + off = (tgt : Int)) (k : zL κ b n xs tgt L S mem) : zL κ b n xs pc L (.inl x :: S) mem := by
  intro p e s m below meth c C H locs ls hP hS hl
  exact lv_tableIn C.1.1 C.1.2.1 hd h1 h2 ho ht (k p e s m below meth c C H locs ls hP hS hl)
theorem zL_swOut {dflt lo hi : Int} {offs : Array Int} {len : Nat} {x : Int32} {tgt : Nat} (hd : decode code pc = .ok (.tableswitch dflt lo hi offs, len)) (h : x.toInt < lo ∨ hi < x.toInt) (ht : (pc : Int) + dflt = (tgt : Int)) (k : zL κ b n xs tgt L S mem) : zL κ b n xs pc L (.inl x :: S) mem := by
  intro p e s m below meth c C H locs ls hP hS hl
  exact lv_tableOut C.1.1 C.1.2.1 hd h ht (k p e s m below meth c C H locs ls hP hS hl)
theorem zL_slen (hd : decode code pc = .ok (.arraylength, 1)) (k : zL κ b n xs (pc + 1) L (.inl (nI n) :: S) mem) : zL κ b n xs pc L (.inr 3000 :: S) mem := by
  intro p e s m below meth c C H locs ls hP hS hl
  have e0 : (zv κ (.inr 3000)) = Value.ref b := by show Value.ref (κ.2.2.1 3000) = _; rw [C.2.2.2]
  show W p κ.1 e room_1 s m #[Value.ref b] below meth c H locs zcel zslo (lw_Z below #[Value.ref b] s) (F0 m pc ls (zv κ (.inr 3000) :: S.map (zv κ)))
  rw [e0]
  exact va_slen C.1.1 C.1.2.1 C.1.2.2.2.2.2.2.1 C.1.2.2.2.2.2.2.2.1 (Nat.not_le.mpr C.1.2.2.2.2.2.2.2.1) hS hd (k p e s m below meth c C H locs ls hP hS hl)
theorem zL_sld {i : Int32} {j : Nat} (hd : decode code pc = .ok (.iaload, 1)) (hin : vp_in i n) (hij : i.toNatClampNeg = j) (k : zL κ b n xs (pc + 1) L (.inl (xs j) :: S) mem) : zL κ b n xs pc L (.inl i :: .inr 3000 :: S) mem := by
  subst hij
  intro p e s m below meth c C H locs ls hP hS hl
  have e0 : (zv κ (.inr 3000)) = Value.ref b := by show Value.ref (κ.2.2.1 3000) = _; rw [C.2.2.2]
  show W p κ.1 e room_1 s m #[Value.ref b] below meth c H locs zcel zslo (lw_Z below #[Value.ref b] s) (F0 m pc ls (.int i :: zv κ (.inr 3000) :: S.map (zv κ)))
  rw [e0]
  exact va_sld C.1.1 C.1.2.1 C.1.2.2.2.2.2.2.1 C.1.2.2.2.2.2.2.2.1 (Nat.not_le.mpr C.1.2.2.2.2.2.2.2.1) hS hin hd (k p e s m below meth c C H locs ls hP hS hl)
theorem zL_ret (hd : decode code pc = .ok (.ireturn, 1)) : zL κ b n xs pc L [.inl 1] mem := by
  intro p e s m below meth c C H locs ls hP hS hl
  refine va_forget hS.2.2 ?_
  refine W.widen (k := zCC) (n := zSS) (by decide) (by decide) ?_
  exact lw_ret C.1.1 C.1.2.1 C.1.2.2.1 C.1.2.2.2.2.2.2.2.2.1 hd
theorem zL_callV {Y' : zY} {q ci idx na : Nat} {A S0 : List zV} {fs : List (Option Nat)} {r : vw_C} (hY : zCV Y' na) (hlk : Cond.methodLink "RingPackerLaw" idx Y'.1 ∈ zGW) (hs : shT[q]? = some (.inr (ci, fs))) (hc : zCl[ci]? = some r) (hr : r.1 = Y'.1.cls) (hd : decode code pc = .ok (.invokevirtual idx, 3)) (hn : A.length = na) (h8 : S.length ≤ 8) (hS0 : S0 = A.reverse ++ .inr q :: S)
    (h : zR κ zdd Y' 0 (zent (.inr q :: A) Y'.2.2.1) [] mem (fun r m' => zL κ b n xs (pc + 3) L (r.toList ++ S) m')) : zL κ b n xs pc L S0 mem := by
  subst hS0
  intro p e s m below meth c C H locs ls hP hS hl
  obtain ⟨y1, y2, y3, y4, y5, y6, y7, y8⟩ := hY
  have hts : ∀ w ∈ zGW, w.before #[Value.ref b] s = true := fun w hw => C.1.2.2.2.2.2.1 w (List.mem_filter.mp hw).1
  have hM := zMet (A := .inr q :: A) y6 (by rw [List.length_cons, hn]; exact y8) h
  have hrecv := va_recv C.2.1.1 hP hc (zw_get hs)
  rw [hr] at hrecv
  have hAF : ∀ q, zA κ q → s.heap.size ≤ q := C.2.2.1
  have hSx : ∀ U : State, U.heap = H → va_S (zA κ) s.heap U.heap [] := by
    intro U hU
    rw [hU]
    exact ⟨hS.1, fun q h1 _ => hS.2.1 q h1 (Nat.not_le.mpr h1), fun _ h => by cases h⟩
  have hrun := va_runV (p := p) (e := e) (R := room_1) (below := below) (meth := meth) (locs := locs) (cells := zcel) (slots := zslo) (H := H) (g := F0 m pc ls ((A.reverse ++ .inr q :: S).map (zv κ))) (As := A.map (zv κ)) (b := κ.2.2.1 q) (C := Y'.1.cls) (Ts := zGW) (own := "RingPackerLaw") (index := idx) (n := na) (bytes := Y'.2.1) (maxL := Y'.2.2.1) (ret := Y'.2.2.2) (nL := 4) (cc := code) (rest := S.map (zv κ))
    ⟨C.1.1, C.1.2.1, C.1.2.2.2.1, C.1.2.2.2.2.1, hts⟩ hM (cwV (ws' := zGW) na hts (zgood ?_) rfl rfl rfl ⟨rfl, y5⟩ ⟨by decide, Nat.le_trans (Nat.add_le_add_right (Nat.add_le_add_left (Nat.add_le_add_right y7 11) 8) _) (by decide)⟩) ⟨zblind, hrecv, fun U hU hW => ⟨rfl, by rw [hU]; exact hP, zX_warm hW (hSx U hU) C.2.1⟩⟩ rfl (by rw [List.length_map]; exact hn) hl.1 (by simp [zv]) (zroom h8) hd ⟨by decide, by decide⟩
  · intro T hT X
    obtain ⟨v, st₀, t, T', L', h0, X', hL, e1, e2, ⟨⟨r, mem', hv, hq, hP'⟩, hz, hk⟩, st⟩ := hrun T hT X
    cases hv
    rw [h0] at hz hk
    obtain ⟨t2, a1, b1⟩ := hq p e s m below meth c C T'.heap (locs ++ L') ls (by rw [e1]; exact hP')
      ⟨Nat.le_trans hS.1 (by rw [e1]; exact hz), fun q h1 h2 => by rw [e1, hk q (Nat.lt_of_lt_of_le h1 hS.1) (fun z => h2 (hAF q z))]; exact hS.2.1 q h1 h2, fun q hq => by
        rcases List.mem_append.mp hq with h | h
        · exact hS.2.2 q h
        · exact hAF _ (hL q h)⟩ hl T' rfl X'
    have hmap : (r.toList ++ S).map (zv κ) = (r.map (zv κ)).toList ++ S.map (zv κ) := by cases r <;> simp
    rw [hmap] at a1
    exact ⟨t2, st t2 a1, b1⟩
  · intro w hw
    simp only [wsV, zws, List.mem_append, List.mem_cons, List.not_mem_nil, or_false] at hw
    rcases hw with (rfl | rfl | rfl | rfl) | rfl | hw
    · exact hlk
    · exact y2
    · exact y3
    · exact y4
    · exact y1
    · exact hw
end
end zLaw
