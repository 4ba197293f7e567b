/-! the instructions of the small logic, a row each -/
section zInstr
variable {κ : zK} {d pc : Nat} {Y : zY} {L : List (Option zV)} {S : List zV} {mem : zM} {Q : Option zV → zM → Prop}
theorem zR_cons {Q' : Option zV → zM → Prop} (hQ : ∀ (r : Option zV) (m' : zM), Q r m' → Q' r m') (h : zR κ d Y pc L S mem Q) : zR κ d Y pc L S mem Q' := by
  intro p e s m args below meth c C H locs ls hP hS hl T hT X
  obtain ⟨t, a, o, b1, b2, ⟨⟨r, mem', c1, c2, c3⟩, c4⟩, b4⟩ := h p e s m args below meth c C H locs ls hP hS hl T hT X
  exact ⟨t, a, o, b1, b2, ⟨⟨r, mem', c1, hQ r mem' c2, c3⟩, c4⟩, b4⟩
theorem zR_weak {L' : List (Option zV)} (hL : ∀ (i : Nat) (v : zV), L'[i]? = some (some v) → L[i]? = some (some v)) (h : zR κ d Y pc L' S mem Q) : zR κ d Y pc L S mem Q :=
  fun p e s m args below meth c C H locs ls hP hS hl => h p e s m args below meth c C H locs ls hP hS (zl_weak hl hL)
theorem zR_drop (i : Nat) (h : zR κ d Y pc (L.set i none) S mem Q) : zR κ d Y pc L S mem Q := by
  refine zR_weak (fun j v hj => ?_) h
  rw [List.getElem?_set] at hj
  split at hj
  · split at hj <;> cases hj
  · exact hj
theorem zR_pc {pc' : Nat} (e : pc' = pc) (h : zR κ d Y pc' L S mem Q) : zR κ d Y pc L S mem Q := e ▸ h
theorem zR_iconst {n : Int} {v : Int32} (hd : decode Y.2.1 pc = .ok (.iconst n, 1)) (hv : Int32.ofInt n = v) (k : zR κ d Y (pc + 1) L (.inl v :: S) mem Q) : zR κ d Y pc L S mem Q := by
  intro p e s m args below meth c C H locs ls hP hS hl
  exact lv_iconst C.1 C.2.1 hd hv (k p e s m args below meth c C H locs ls hP hS hl)
theorem zR_bipush {n : Int} {v : Int32} (hd : decode Y.2.1 pc = .ok (.bipush n, 2)) (hv : (Int8.ofInt n).toInt32 = v) (k : zR κ d Y (pc + 2) L (.inl v :: S) mem Q) : zR κ d Y pc L S mem Q := by
  intro p e s m args below meth c C H locs ls hP hS hl
  exact lv_bipush C.1 C.2.1 hd hv (k p e s m args below meth c C H locs ls hP hS hl)
theorem zR_sipush {n : Int} {v : Int32} (hd : decode Y.2.1 pc = .ok (.sipush n, 3)) (hv : (Int16.ofInt n).toInt32 = v) (k : zR κ d Y (pc + 3) L (.inl v :: S) mem Q) : zR κ d Y pc L S mem Q := by
  intro p e s m args below meth c C H locs ls hP hS hl
  exact lv_sipush C.1 C.2.1 hd hv (k p e s m args below meth c C H locs ls hP hS hl)
theorem zR_iload_n {j : Fin 4} {i : Nat} {x : Int32} (hd : decode Y.2.1 pc = .ok (.iload_n j, 1)) (hi : (j : Nat) = i) (hL : L[i]? = some (some (.inl x))) (k : zR κ d Y (pc + 1) L (.inl x :: S) mem Q) : zR κ d Y pc L S mem Q := by
  intro p e s m args below meth c C H locs ls hP hS hl
  exact lv_iload_n C.1 C.2.1 hd hi (zl_at hl hL) (k p e s m args below meth c C H locs ls hP hS hl)
theorem zR_iload {i : Nat} {x : Int32} (hd : decode Y.2.1 pc = .ok (.iload i, 2)) (hL : L[i]? = some (some (.inl x))) (k : zR κ d Y (pc + 2) L (.inl x :: S) mem Q) : zR κ d Y pc L S mem Q := by
  intro p e s m args below meth c C H locs ls hP hS hl
  exact lv_iload C.1 C.2.1 hd (zl_at hl hL) (k p e s m args below meth c C H locs ls hP hS hl)
theorem zR_aload_n {j : Fin 4} {i q : Nat} (hd : decode Y.2.1 pc = .ok (.aload_n j, 1)) (hi : (j : Nat) = i) (hL : L[i]? = some (some (.inr q))) (k : zR κ d Y (pc + 1) L (.inr q :: S) mem Q) : zR κ d Y pc L S mem Q := by
  intro p e s m args below meth c C H locs ls hP hS hl
  exact lv_aload_n C.1 C.2.1 hd hi (zl_at hl hL) (k p e s m args below meth c C H locs ls hP hS hl)
theorem zR_aload {i q : Nat} (hd : decode Y.2.1 pc = .ok (.aload i, 2)) (hL : L[i]? = some (some (.inr q))) (k : zR κ d Y (pc + 2) L (.inr q :: S) mem Q) : zR κ d Y pc L S mem Q := by
  intro p e s m args below meth c C H locs ls hP hS hl
  exact lv_aload C.1 C.2.1 hd (zl_at hl hL) (k p e s m args below meth c C H locs ls hP hS hl)
theorem zR_istore_n {j : Fin 4} {i : Nat} {x : Int32} (hd : decode Y.2.1 pc = .ok (.istore_n j, 1)) (hi : (j : Nat) = i) (hn : i < Y.2.2.1) (k : zR κ d Y (pc + 1) (L.set i (some (.inl x))) S mem Q) : zR κ d Y pc L (.inl x :: S) mem Q := by
  intro p e s m args below meth c C H locs ls hP hS hl
  exact lv_istore_n C.1 C.2.1 hd hi hl hn rfl (fun ls' hl' => k p e s m args below meth c C H locs ls' hP hS (zl_store (v := .inl x) hl'))
theorem zR_istore {i : Nat} {x : Int32} (hd : decode Y.2.1 pc = .ok (.istore i, 2)) (hn : i < Y.2.2.1) (k : zR κ d Y (pc + 2) (L.set i (some (.inl x))) S mem Q) : zR κ d Y pc L (.inl x :: S) mem Q := by
  intro p e s m args below meth c C H locs ls hP hS hl
  exact lv_istore C.1 C.2.1 hd hl hn rfl (fun ls' hl' => k p e s m args below meth c C H locs ls' hP hS (zl_store (v := .inl x) hl'))
theorem zR_astore_n {j : Fin 4} {i : Nat} {x : Nat} (hd : decode Y.2.1 pc = .ok (.astore_n j, 1)) (hi : (j : Nat) = i) (hn : i < Y.2.2.1) (k : zR κ d Y (pc + 1) (L.set i (some (.inr x))) S mem Q) : zR κ d Y pc L (.inr x :: S) mem Q := by
  intro p e s m args below meth c C H locs ls hP hS hl
  exact lv_astore_n C.1 C.2.1 hd hi hl hn rfl (fun ls' hl' => k p e s m args below meth c C H locs ls' hP hS (zl_store (v := .inr x) hl'))
theorem zR_astore {i : Nat} {x : Nat} (hd : decode Y.2.1 pc = .ok (.astore i, 2)) (hn : i < Y.2.2.1) (k : zR κ d Y (pc + 2) (L.set i (some (.inr x))) S mem Q) : zR κ d Y pc L (.inr x :: S) mem Q := by
  intro p e s m args below meth c C H locs ls hP hS hl
  exact lv_astore C.1 C.2.1 hd hl hn rfl (fun ls' hl' => k p e s m args below meth c C H locs ls' hP hS (zl_store (v := .inr x) hl'))
theorem zR_iinc {i : Nat} {n : Int} {x v : Int32} (hd : decode Y.2.1 pc = .ok (.iinc i n, 3)) (hL : L[i]? = some (some (.inl x))) (hv : Int32.ofInt n = v) (hn : i < Y.2.2.1) (k : zR κ d Y (pc + 3) (L.set i (some (.inl (x + v)))) S mem Q) : zR κ d Y pc L S mem Q := by
  subst hv
  intro p e s m args below meth c C H locs ls hP hS hl
  obtain ⟨j, hj⟩ := List.getElem?_of_mem ((zl_mem (κ := κ) L 0 (i, .int x)).mpr ⟨i, .inl x, hL, by rw [Nat.zero_add]; rfl⟩)
  exact lv_iinc C.1 C.2.1 hd hl hj rfl hn rfl (fun ls' hl' => k p e s m args below meth c C H locs ls' hP hS (zl_store (v := .inl _) hl'))
theorem zR_ishl {x y z : Int32} (hd : decode Y.2.1 pc = .ok (.ishl, 1)) (hz : y &&& 31 = z) (k : zR κ d Y (pc + 1) L (.inl (x <<< z) :: S) mem Q) : zR κ d Y pc L (.inl y :: .inl x :: S) mem Q := by
  subst hz
  intro p e s m args below meth c C H locs ls hP hS hl
  exact lv_ishl C.1 C.2.1 hd (k p e s m args below meth c C H locs ls hP hS hl)
theorem zR_ishr {x y z : Int32} (hd : decode Y.2.1 pc = .ok (.ishr, 1)) (hz : y &&& 31 = z) (k : zR κ d Y (pc + 1) L (.inl (x >>> z) :: S) mem Q) : zR κ d Y pc L (.inl y :: .inl x :: S) mem Q := by
  subst hz
  intro p e s m args below meth c C H locs ls hP hS hl
  exact lv_ishr C.1 C.2.1 hd (k p e s m args below meth c C H locs ls hP hS hl)
theorem zR_iadd {x y : Int32} (hd : decode Y.2.1 pc = .ok (.iadd, 1)) (k : zR κ d Y (pc + 1) L (.inl (x + y) :: S) mem Q) : zR κ d Y pc L (.inl y :: .inl x :: S) mem Q := by
  intro p e s m args below meth c C H locs ls hP hS hl
  exact lv_iadd C.1 C.2.1 hd (k p e s m args below meth c C H locs ls hP hS hl)
theorem zR_isub {x y : Int32} (hd : decode Y.2.1 pc = .ok (.isub, 1)) (k : zR κ d Y (pc + 1) L (.inl (x - y) :: S) mem Q) : zR κ d Y pc L (.inl y :: .inl x :: S) mem Q := by
  intro p e s m args below meth c C H locs ls hP hS hl
  exact lv_isub C.1 C.2.1 hd (k p e s m args below meth c C H locs ls hP hS hl)
theorem zR_imul {x y : Int32} (hd : decode Y.2.1 pc = .ok (.imul, 1)) (k : zR κ d Y (pc + 1) L (.inl (x * y) :: S) mem Q) : zR κ d Y pc L (.inl y :: .inl x :: S) mem Q := by
  intro p e s m args below meth c C H locs ls hP hS hl
  exact lv_imul C.1 C.2.1 hd (k p e s m args below meth c C H locs ls hP hS hl)
theorem zR_iand {x y : Int32} (hd : decode Y.2.1 pc = .ok (.iand, 1)) (k : zR κ d Y (pc + 1) L (.inl (x &&& y) :: S) mem Q) : zR κ d Y pc L (.inl y :: .inl x :: S) mem Q := by
  intro p e s m args below meth c C H locs ls hP hS hl
  exact lv_iand C.1 C.2.1 hd (k p e s m args below meth c C H locs ls hP hS hl)
theorem zR_ior {x y : Int32} (hd : decode Y.2.1 pc = .ok (.ior, 1)) (k : zR κ d Y (pc + 1) L (.inl (x ||| y) :: S) mem Q) : zR κ d Y pc L (.inl y :: .inl x :: S) mem Q := by
  intro p e s m args below meth c C H locs ls hP hS hl
  exact lv_ior C.1 C.2.1 hd (k p e s m args below meth c C H locs ls hP hS hl)
theorem zR_ixor {x y : Int32} (hd : decode Y.2.1 pc = .ok (.ixor, 1)) (k : zR κ d Y (pc + 1) L (.inl (x ^^^ y) :: S) mem Q) : zR κ d Y pc L (.inl y :: .inl x :: S) mem Q := by
  intro p e s m args below meth c C H locs ls hP hS hl
  exact lv_ixor C.1 C.2.1 hd (k p e s m args below meth c C H locs ls hP hS hl)
theorem zR_idiv {x y : Int32} (hd : decode Y.2.1 pc = .ok (.idiv, 1)) (hne : ¬ y = 0) (k : zR κ d Y (pc + 1) L (.inl (x / y) :: S) mem Q) : zR κ d Y pc L (.inl y :: .inl x :: S) mem Q := by
  intro p e s m args below meth c C H locs ls hP hS hl
  exact lv_idiv C.1 C.2.1 hd hne (k p e s m args below meth c C H locs ls hP hS hl)
theorem zR_irem {x y : Int32} (hd : decode Y.2.1 pc = .ok (.irem, 1)) (hne : ¬ y = 0) (k : zR κ d Y (pc + 1) L (.inl (x - x / y * y) :: S) mem Q) : zR κ d Y pc L (.inl y :: .inl x :: S) mem Q := by
  intro p e s m args below meth c C H locs ls hP hS hl
  exact lv_irem C.1 C.2.1 hd hne (k p e s m args below meth c C H locs ls hP hS hl)
theorem zR_ineg {x : Int32} (hd : decode Y.2.1 pc = .ok (.ineg, 1)) (k : zR κ d Y (pc + 1) L (.inl (-x) :: S) mem Q) : zR κ d Y pc L (.inl x :: S) mem Q := by
  intro p e s m args below meth c C H locs ls hP hS hl
  exact lv_ineg C.1 C.2.1 hd (k p e s m args below meth c C H locs ls hP hS hl)
theorem zR_dup {v : zV} (hd : decode Y.2.1 pc = .ok (.dup, 1)) (k : zR κ d Y (pc + 1) L (v :: v :: S) mem Q) : zR κ d Y pc L (v :: S) mem Q := by
  intro p e s m args below meth c C H locs ls hP hS hl
  exact lv_dup C.1 C.2.1 hd (zcat κ v) (k p e s m args below meth c C H locs ls hP hS hl)
theorem zR_pop {v : zV} (hd : decode Y.2.1 pc = .ok (.pop, 1)) (k : zR κ d Y (pc + 1) L S mem Q) : zR κ d Y pc L (v :: S) mem Q := by
  intro p e s m args below meth c C H locs ls hP hS hl
  exact lv_pop C.1 C.2.1 hd (zcat κ v) (k p e s m args below meth c C H locs ls hP hS hl)
theorem zR_dup2 {v w : zV} (hd : decode Y.2.1 pc = .ok (.dup2, 1)) (k : zR κ d Y (pc + 1) L (v :: w :: v :: w :: S) mem Q) : zR κ d Y pc L (v :: w :: S) mem Q := by
  intro p e s m args below meth c C H locs ls hP hS hl
  exact lv_dup2_11 C.1 C.2.1 hd (zcat κ v) (zcat κ w) (k p e s m args below meth c C H locs ls hP hS hl)
theorem zR_goto {off : Int} {tgt : Nat} (hd : decode Y.2.1 pc = .ok (.goto off, 3)) (ht : (pc : Int) + off = (tgt : Int)) (k : zR κ d Y tgt L S mem Q) : zR κ d Y pc L S mem Q := by
  intro p e s m args below meth c C H locs ls hP hS hl
  exact lv_goto C.1 C.2.1 hd ht (k p e s m args below meth c C H locs ls hP hS hl)
theorem zR_if_eq {x : Int32} {off : Int} {tgt : Nat} (hd : decode Y.2.1 pc = .ok (.ifCond .eq off, 3)) (ht : (pc : Int) + off = (tgt : Int)) (kt : x = 0 → zR κ d Y tgt L S mem Q) (kf : ¬ x = 0 → zR κ d Y (pc + 3) L S mem Q) : zR κ d Y pc L (.inl x :: S) mem Q := by
  intro p e s m args below meth c C H locs ls hP hS hl
  exact lv_if_eq C.1 C.2.1 hd ht (fun h => kt h p e s m args below meth c C H locs ls hP hS hl) (fun h => kf h p e s m args below meth c C H locs ls hP hS hl)
theorem zR_icmp_eq {x y : Int32} {off : Int} {tgt : Nat} (hd : decode Y.2.1 pc = .ok (.if_icmp .eq off, 3)) (ht : (pc : Int) + off = (tgt : Int)) (kt : x = y → zR κ d Y tgt L S mem Q) (kf : ¬ x = y → zR κ d Y (pc + 3) L S mem Q) : zR κ d Y pc L (.inl y :: .inl x :: S) mem Q := by
  intro p e s m args below meth c C H locs ls hP hS hl
  exact lv_icmp_eq C.1 C.2.1 hd ht (fun h => kt h p e s m args below meth c C H locs ls hP hS hl) (fun h => kf h p e s m args below meth c C H locs ls hP hS hl)
theorem zR_if_ne {x : Int32} {off : Int} {tgt : Nat} (hd : decode Y.2.1 pc = .ok (.ifCond .ne off, 3)) (ht : (pc : Int) + off = (tgt : Int)) (kt : ¬ x = 0 → zR κ d Y tgt L S mem Q) (kf : x = 0 → zR κ d Y (pc + 3) L S mem Q) : zR κ d Y pc L (.inl x :: S) mem Q := by
  intro p e s m args below meth c C H locs ls hP hS hl
  exact lv_if_ne C.1 C.2.1 hd ht (fun h => kt h p e s m args below meth c C H locs ls hP hS hl) (fun h => kf h p e s m args below meth c C H locs ls hP hS hl)
theorem zR_icmp_ne {x y : Int32} {off : Int} {tgt : Nat} (hd : decode Y.2.1 pc = .ok (.if_icmp .ne off, 3)) (ht : (pc : Int) + off = (tgt : Int)) (kt : ¬ x = y → zR κ d Y tgt L S mem Q) (kf : x = y → zR κ d Y (pc + 3) L S mem Q) : zR κ d Y pc L (.inl y :: .inl x :: S) mem Q := by
  intro p e s m args below meth c C H locs ls hP hS hl
  exact lv_icmp_ne C.1 C.2.1 hd ht (fun h => kt h p e s m args below meth c C H locs ls hP hS hl) (fun h => kf h p e s m args below meth c C H locs ls hP hS hl)
theorem zR_if_lt {x : Int32} {off : Int} {tgt : Nat} (hd : decode Y.2.1 pc = .ok (.ifCond .lt off, 3)) (ht : (pc : Int) + off = (tgt : Int)) (kt : x < 0 → zR κ d Y tgt L S mem Q) (kf : ¬ x < 0 → zR κ d Y (pc + 3) L S mem Q) : zR κ d Y pc L (.inl x :: S) mem Q := by
  intro p e s m args below meth c C H locs ls hP hS hl
  exact lv_if_lt C.1 C.2.1 hd ht (fun h => kt h p e s m args below meth c C H locs ls hP hS hl) (fun h => kf h p e s m args below meth c C H locs ls hP hS hl)
theorem zR_icmp_lt {x y : Int32} {off : Int} {tgt : Nat} (hd : decode Y.2.1 pc = .ok (.if_icmp .lt off, 3)) (ht : (pc : Int) + off = (tgt : Int)) (kt : x < y → zR κ d Y tgt L S mem Q) (kf : ¬ x < y → zR κ d Y (pc + 3) L S mem Q) : zR κ d Y pc L (.inl y :: .inl x :: S) mem Q := by
  intro p e s m args below meth c C H locs ls hP hS hl
  exact lv_icmp_lt C.1 C.2.1 hd ht (fun h => kt h p e s m args below meth c C H locs ls hP hS hl) (fun h => kf h p e s m args below meth c C H locs ls hP hS hl)
theorem zR_if_ge {x : Int32} {off : Int} {tgt : Nat} (hd : decode Y.2.1 pc = .ok (.ifCond .ge off, 3)) (ht : (pc : Int) + off = (tgt : Int)) (kt : 0 ≤ x → zR κ d Y tgt L S mem Q) (kf : ¬ 0 ≤ x → zR κ d Y (pc + 3) L S mem Q) : zR κ d Y pc L (.inl x :: S) mem Q := by
  intro p e s m args below meth c C H locs ls hP hS hl
  exact lv_if_ge C.1 C.2.1 hd ht (fun h => kt h p e s m args below meth c C H locs ls hP hS hl) (fun h => kf h p e s m args below meth c C H locs ls hP hS hl)
theorem zR_icmp_ge {x y : Int32} {off : Int} {tgt : Nat} (hd : decode Y.2.1 pc = .ok (.if_icmp .ge off, 3)) (ht : (pc : Int) + off = (tgt : Int)) (kt : y ≤ x → zR κ d Y tgt L S mem Q) (kf : ¬ y ≤ x → zR κ d Y (pc + 3) L S mem Q) : zR κ d Y pc L (.inl y :: .inl x :: S) mem Q := by
  intro p e s m args below meth c C H locs ls hP hS hl
  exact lv_icmp_ge C.1 C.2.1 hd ht (fun h => kt h p e s m args below meth c C H locs ls hP hS hl) (fun h => kf h p e s m args below meth c C H locs ls hP hS hl)
theorem zR_if_gt {x : Int32} {off : Int} {tgt : Nat} (hd : decode Y.2.1 pc = .ok (.ifCond .gt off, 3)) (ht : (pc : Int) + off = (tgt : Int)) (kt : 0 < x → zR κ d Y tgt L S mem Q) (kf : ¬ 0 < x → zR κ d Y (pc + 3) L S mem Q) : zR κ d Y pc L (.inl x :: S) mem Q := by
  intro p e s m args below meth c C H locs ls hP hS hl
  exact lv_if_gt C.1 C.2.1 hd ht (fun h => kt h p e s m args below meth c C H locs ls hP hS hl) (fun h => kf h p e s m args below meth c C H locs ls hP hS hl)
theorem zR_icmp_gt {x y : Int32} {off : Int} {tgt : Nat} (hd : decode Y.2.1 pc = .ok (.if_icmp .gt off, 3)) (ht : (pc : Int) + off = (tgt : Int)) (kt : y < x → zR κ d Y tgt L S mem Q) (kf : ¬ y < x → zR κ d Y (pc + 3) L S mem Q) : zR κ d Y pc L (.inl y :: .inl x :: S) mem Q := by
  intro p e s m args below meth c C H locs ls hP hS hl
  exact lv_icmp_gt C.1 C.2.1 hd ht (fun h => kt h p e s m args below meth c C H locs ls hP hS hl) (fun h => kf h p e s m args below meth c C H locs ls hP hS hl)
theorem zR_if_le {x : Int32} {off : Int} {tgt : Nat} (hd : decode Y.2.1 pc = .ok (.ifCond .le off, 3)) (ht : (pc : Int) + off = (tgt : Int)) (kt : x ≤ 0 → zR κ d Y tgt L S mem Q) (kf : ¬ x ≤ 0 → zR κ d Y (pc + 3) L S mem Q) : zR κ d Y pc L (.inl x :: S) mem Q := by
  intro p e s m args below meth c C H locs ls hP hS hl
  exact lv_if_le C.1 C.2.1 hd ht (fun h => kt h p e s m args below meth c C H locs ls hP hS hl) (fun h => kf h p e s m args below meth c C H locs ls hP hS hl)
theorem zR_icmp_le {x y : Int32} {off : Int} {tgt : Nat} (hd : decode Y.2.1 pc = .ok (.if_icmp .le off, 3)) (ht : (pc : Int) + off = (tgt : Int)) (kt : x ≤ y → zR κ d Y tgt L S mem Q) (kf : ¬ x ≤ y → zR κ d Y (pc + 3) L S mem Q) : zR κ d Y pc L (.inl y :: .inl x :: S) mem Q := by
  intro p e s m args below meth c C H locs ls hP hS hl
  exact lv_icmp_le C.1 C.2.1 hd ht (fun h => kt h p e s m args below meth c C H locs ls hP hS hl) (fun h => kf h p e s m args below meth c C H locs ls hP hS hl)
theorem zR_ireturn {x : Int32} (hr : Y.2.2.2 = some .int) (hd : decode Y.2.1 pc = .ok (.ireturn, 1)) (hq : Q (some (.inl x)) mem) : zR κ d Y pc L [.inl x] mem Q := by
  intro p e s m args below meth c C H locs ls hP hS hl
  exact W.iret (v := x) C.1 C.2.1 (C.2.2.2.1.trans hr) (fun t ht hW => ⟨⟨some (.inl x), mem, rfl, hq, by rw [ht]; exact hP⟩, hS.F ht⟩) hS.2.2 hd C.2.2.2.2.1
theorem zR_zreturn {x : Int32} (hr : Y.2.2.2 = some .boolean) (hd : decode Y.2.1 pc = .ok (.ireturn, 1)) (h01 : x = 0 ∨ x = 1) (hq : Q (some (.inl x)) mem) : zR κ d Y pc L [.inl x] mem Q := by
  intro p e s m args below meth c C H locs ls hP hS hl
  exact W.zret (v := x) C.1 C.2.1 (C.2.2.2.1.trans hr) (by rcases h01 with rfl | rfl <;> rfl) (fun t ht hW => ⟨⟨some (.inl x), mem, rfl, hq, by rw [ht]; exact hP⟩, hS.F ht⟩) hS.2.2 hd C.2.2.2.2.1
theorem zR_return (hr : Y.2.2.2 = none) (hd : decode Y.2.1 pc = .ok (.return_, 1)) (hq : Q none mem) : zR κ d Y pc L [] mem Q := by
  intro p e s m args below meth c C H locs ls hP hS hl
  exact W.vret C.1 C.2.1 (C.2.2.2.1.trans hr) (fun t ht hW => ⟨⟨none, mem, rfl, hq, by rw [ht]; exact hP⟩, hS.F ht⟩) hS.2.2 hd C.2.2.2.2.1
theorem zR_areturn {q : Nat} {cn : String} (hr : Y.2.2.2 = some (.object cn)) (hd : decode Y.2.1 pc = .ok (.areturn, 1)) (hq : Q (some (.inr q)) mem) : zR κ d Y pc L [.inr q] mem Q := by
  intro p e s m args below meth c C H locs ls hP hS hl
  exact W.aret (v := .ref (κ.2.2.1 q)) C.1 C.2.1 (C.2.2.2.1.trans hr) (Or.inl ⟨cn, rfl⟩) (Or.inr ⟨_, rfl⟩) (fun t ht hW => ⟨⟨some (.inr q), mem, rfl, hq, by rw [ht]; exact hP⟩, hS.F ht⟩) hS.2.2 hd C.2.2.2.2.1
theorem zR_iaload {q n j : Nat} {i : Int32} (hd : decode Y.2.1 pc = .ok (.iaload, 1)) (hs : shT[q]? = some (.inl n)) (hin : vp_in i n) (hij : i.toNatClampNeg = j) (k : zR κ d Y (pc + 1) L (.inl (mem q j) :: S) mem Q) : zR κ d Y pc L (.inl i :: .inr q :: S) mem Q := by
  subst hij
  intro p e s m args below meth c C H locs ls hP hS hl
  exact va_iald C.1 C.2.1 C.2.2.2.2.2.2.2.1 hP q 0 (zw_get hs) rfl hin hd (k p e s m args below meth c C H locs ls hP hS hl)
theorem zR_iastore {q n j : Nat} {i x : Int32} (hd : decode Y.2.1 pc = .ok (.iastore, 1)) (hs : shT[q]? = some (.inl n)) (hin : vp_in i n) (hij : i.toNatClampNeg = j) (k : zR κ d Y (pc + 1) L S (zms mem q j x) Q) : zR κ d Y pc L (.inl x :: .inl i :: .inr q :: S) mem Q := by
  subst hij
  intro p e s m args below meth c C H locs ls hP hS hl
  refine va_iast C.1 C.2.1 C.2.2.2.2.2.2.2.1 hP (zD C.2.2.2.2.2.2.2.2.2.1) hS q 0 (zw_get hs) rfl hin hd (fun H1 locs1 hP1 hD1 hS1 => k p e s m args below meth c C H1 locs1 ls ?_ hS1 hl)
  show va_P κ.2.1 zCl (zw κ (zmr mem q (upd (mem q) i.toNatClampNeg x))) H1
  rw [← zw_set hs]
  exact hP1
theorem zR_arraylength {q n : Nat} {v : Int32} (hd : decode Y.2.1 pc = .ok (.arraylength, 1)) (hs : shT[q]? = some (.inl n)) (hv : Int32.ofNat n = v) (k : zR κ d Y (pc + 1) L (.inl v :: S) mem Q) : zR κ d Y pc L (.inr q :: S) mem Q := by
  intro p e s m args below meth c C H locs ls hP hS hl
  exact va_alen C.1 C.2.1 C.2.2.2.2.2.2.2.1 hP q 0 (zw_get hs) rfl hv hd (k p e s m args below meth c C H locs ls hP hS hl)
theorem zR_getI {q ci j idx : Nat} {fs : List (Option Nat)} {r : vw_C} (hd : decode Y.2.1 pc = .ok (.getfield idx, 3)) (hs : shT[q]? = some (.inr (ci, fs))) (hc : zCl[ci]? = some r) (hj : fs[j]? = some none) (hjN : j < r.2.2) (hlk : Cond.fieldLink Y.1.cls idx (r.2.1 j).1 (r.2.1 j).2.1 (r.2.1 j).2.2.1 ∈ zGW) (k : zR κ d Y (pc + 3) L (.inl (mem q j) :: S) mem Q) : zR κ d Y pc L (.inr q :: S) mem Q := by
  intro p e s m args below meth c C H locs ls hP hS hl
  exact va_get C.1 C.2.1 C.2.2.2.2.2.2.1 (zLay hc) C.2.2.2.2.2.1 C.2.2.2.2.2.2.2.1 hP q (zw_get hs) hc j hjN (C.2.2.2.2.2.2.1 _ hlk) (fun _ h => h) (zf_get hj) hd (k p e s m args below meth c C H locs ls hP hS hl)
theorem zR_getR {q ci j idx q' : Nat} {fs : List (Option Nat)} {r : vw_C} (hd : decode Y.2.1 pc = .ok (.getfield idx, 3)) (hs : shT[q]? = some (.inr (ci, fs))) (hc : zCl[ci]? = some r) (hj : fs[j]? = some (some q')) (hjN : j < r.2.2) (hlk : Cond.fieldLink Y.1.cls idx (r.2.1 j).1 (r.2.1 j).2.1 (r.2.1 j).2.2.1 ∈ zGW) (k : zR κ d Y (pc + 3) L (.inr q' :: S) mem Q) : zR κ d Y pc L (.inr q :: S) mem Q := by
  intro p e s m args below meth c C H locs ls hP hS hl
  exact va_get C.1 C.2.1 C.2.2.2.2.2.2.1 (zLay hc) C.2.2.2.2.2.1 C.2.2.2.2.2.2.2.1 hP q (zw_get hs) hc j hjN (C.2.2.2.2.2.2.1 _ hlk) (fun _ h => h) (zf_get hj) hd (k p e s m args below meth c C H locs ls hP hS hl)
theorem zR_put {q ci j idx : Nat} {fs : List (Option Nat)} {r : vw_C} {x : Int32} {ty : FieldType} (hd : decode Y.2.1 pc = .ok (.putfield idx, 3)) (hs : shT[q]? = some (.inr (ci, fs))) (hc : zCl[ci]? = some r) (hj : fs[j]? = some none) (hjN : j < r.2.2) (hfin : (r.2.1 j).2.2.2 = false) (hty : parseFieldDescriptor (r.2.1 j).2.2.1 = some ty) (hlk : Cond.fieldLink Y.1.cls idx (r.2.1 j).1 (r.2.1 j).2.1 (r.2.1 j).2.2.1 ∈ zGW) (hx : narrow ty (.int x) = .int x ∧ fits ty (.int x) = true) (k : zR κ d Y (pc + 3) L S (zms mem q j x) Q) : zR κ d Y pc L (.inl x :: .inr q :: S) mem Q := by
  intro p e s m args below meth c C H locs ls hP hS hl
  obtain ⟨tyF, ht1, ht2⟩ := zOK hc
  refine va_put C.1 C.2.1 C.2.2.2.2.2.2.1 (zLay hc) tyF ht1 ht2 C.2.2.2.2.2.1 C.2.2.2.2.2.2.2.1 hP (zD C.2.2.2.2.2.2.2.2.2.1) hS q (zw_get hs) hc j hjN (C.2.2.2.2.2.2.1 _ hlk) (fun _ h => h) hfin hty hx.1 hx.2 (List.getElem?_eq_some_iff.mp (zf_get (κ := κ) (f := mem q) hj)).1 hd (fun H1 locs1 hP1 hD1 hS1 => k p e s m args below meth c C H1 locs1 ls ?_ hS1 hl)
  show va_P κ.2.1 zCl (zw κ (zmr mem q (upd (mem q) j x))) H1
  rw [← zw_set hs]
  show va_P κ.2.1 zCl ((zw κ mem).set q (κ.2.2.1 q, .inr (ci, fs.mapIdx (zf κ (upd (mem q) j x))))) H1
  rw [← zf_set hj]
  exact hP1
theorem zR_getIN {host : String} {q ci j idx : Nat} {fs : List (Option Nat)} {r : vw_C} (hd : decode Y.2.1 pc = .ok (.getfield idx, 3)) (hs : shT[q]? = some (.inr (ci, fs))) (hc : zCl[ci]? = some r) (hj : fs[j]? = some none) (hjN : j < r.2.2) (hlk : Cond.fieldLinkNest Y.1.cls idx (r.2.1 j).1 (r.2.1 j).2.1 (r.2.1 j).2.2.1 host ∈ zNW) (k : zR κ d Y (pc + 3) L (.inl (mem q j) :: S) mem Q) : zR κ d Y pc L (.inr q :: S) mem Q := by
  intro p e s m args below meth c C H locs ls hP hS hl
  exact va_getN C.1 C.2.1 C.2.2.2.2.2.2.1 (zLay hc) C.2.2.2.2.2.1 C.2.2.2.2.2.2.2.1 hP q (zw_get hs) hc j hjN (va_Nw.use rfl (C.2.2.2.2.2.2.2.2.1 _ hlk)) (fun _ h => h) (zf_get hj) hd (k p e s m args below meth c C H locs ls hP hS hl)
theorem zR_getRN {host : String} {q ci j idx q' : Nat} {fs : List (Option Nat)} {r : vw_C} (hd : decode Y.2.1 pc = .ok (.getfield idx, 3)) (hs : shT[q]? = some (.inr (ci, fs))) (hc : zCl[ci]? = some r) (hj : fs[j]? = some (some q')) (hjN : j < r.2.2) (hlk : Cond.fieldLinkNest Y.1.cls idx (r.2.1 j).1 (r.2.1 j).2.1 (r.2.1 j).2.2.1 host ∈ zNW) (k : zR κ d Y (pc + 3) L (.inr q' :: S) mem Q) : zR κ d Y pc L (.inr q :: S) mem Q := by
  intro p e s m args below meth c C H locs ls hP hS hl
  exact va_getN C.1 C.2.1 C.2.2.2.2.2.2.1 (zLay hc) C.2.2.2.2.2.1 C.2.2.2.2.2.2.2.1 hP q (zw_get hs) hc j hjN (va_Nw.use rfl (C.2.2.2.2.2.2.2.2.1 _ hlk)) (fun _ h => h) (zf_get hj) hd (k p e s m args below meth c C H locs ls hP hS hl)
theorem zR_putN {host : String} {q ci j idx : Nat} {fs : List (Option Nat)} {r : vw_C} {x : Int32} {ty : FieldType} (hd : decode Y.2.1 pc = .ok (.putfield idx, 3)) (hs : shT[q]? = some (.inr (ci, fs))) (hc : zCl[ci]? = some r) (hj : fs[j]? = some none) (hjN : j < r.2.2) (hfin : (r.2.1 j).2.2.2 = false) (hty : parseFieldDescriptor (r.2.1 j).2.2.1 = some ty) (hlk : Cond.fieldLinkNest Y.1.cls idx (r.2.1 j).1 (r.2.1 j).2.1 (r.2.1 j).2.2.1 host ∈ zNW) (hx : narrow ty (.int x) = .int x ∧ fits ty (.int x) = true) (k : zR κ d Y (pc + 3) L S (zms mem q j x) Q) : zR κ d Y pc L (.inl x :: .inr q :: S) mem Q := by
  intro p e s m args below meth c C H locs ls hP hS hl
  obtain ⟨tyF, ht1, ht2⟩ := zOK hc
  refine va_putN C.1 C.2.1 C.2.2.2.2.2.2.1 (zLay hc) tyF ht1 ht2 C.2.2.2.2.2.1 C.2.2.2.2.2.2.2.1 hP (zD C.2.2.2.2.2.2.2.2.2.1) hS q (zw_get hs) hc j hjN (va_Nw.use rfl (C.2.2.2.2.2.2.2.2.1 _ hlk)) (fun _ h => h) hfin hty hx.1 hx.2 (List.getElem?_eq_some_iff.mp (zf_get (κ := κ) (f := mem q) hj)).1 hd (fun H1 locs1 hP1 hD1 hS1 => k p e s m args below meth c C H1 locs1 ls ?_ hS1 hl)
  show va_P κ.2.1 zCl (zw κ (zmr mem q (upd (mem q) j x))) H1
  rw [← zw_set hs]
  show va_P κ.2.1 zCl ((zw κ mem).set q (κ.2.2.1 q, .inr (ci, fs.mapIdx (zf κ (upd (mem q) j x))))) H1
  rw [← zf_set hj]
  exact hP1
theorem zint (x : Int32) : narrow .int (.int x) = .int x ∧ fits .int (.int x) = true := ⟨rfl, rfl⟩
theorem zbool {x : Int32} (h : x = 0 ∨ x = 1) : narrow .boolean (.int x) = .int x ∧ fits .boolean (.int x) = true := by
  rcases h with rfl | rfl <;> exact ⟨rfl, rfl⟩
theorem zR_getT {host : String} {t idx : Nat} {r : String × List Int32} (hd : decode Y.2.1 pc = .ok (.getstatic idx, 3)) (ht : zTab[t]? = some r) (hlk : Cond.fieldLinkNest Y.1.cls idx "RingPacker" r.1 "[I" host ∈ zNW) (k : zR κ d Y (pc + 3) L (.inr (1000 + t) :: S) mem Q) : zR κ d Y pc L S mem Q := by
  intro p e s m args below meth c C H locs ls hP hS hl
  exact va_getsN C.1 C.2.1 (C.2.2.2.2.2.2.2.2.2.2.1 t r ht).1 hS C.2.2.2.2.2.1 (va_Nw.use rfl (C.2.2.2.2.2.2.2.2.1 _ hlk)) (fun _ h => h) hd (k p e s m args below meth c C H locs ls hP hS hl)
theorem zR_tload {t j : Nat} {r : String × List Int32} {i : Int32} (hd : decode Y.2.1 pc = .ok (.iaload, 1)) (ht : zTab[t]? = some r) (hin : vp_in i r.2.length) (hij : i.toNatClampNeg = j) (k : zR κ d Y (pc + 1) L (.inl (r.2.getD j 0) :: S) mem Q) : zR κ d Y pc L (.inl i :: .inr (1000 + t) :: S) mem Q := by
  subst hij
  intro p e s m args below meth c C H locs ls hP hS hl
  exact va_ti C.1 C.2.1 (C.2.2.2.2.2.2.2.2.2.2.1 t r ht).2 hS hin rfl hd (k p e s m args below meth c C H locs ls hP hS hl)
theorem zR_tlen {t : Nat} {r : String × List Int32} {v : Int32} (hd : decode Y.2.1 pc = .ok (.arraylength, 1)) (ht : zTab[t]? = some r) (hv : Int32.ofNat r.2.length = v) (k : zR κ d Y (pc + 1) L (.inl v :: S) mem Q) : zR κ d Y pc L (.inr (1000 + t) :: S) mem Q := by
  intro p e s m args below meth c C H locs ls hP hS hl
  exact va_tlen C.1 C.2.1 (C.2.2.2.2.2.2.2.2.2.2.1 t r ht).2 hS hv hd (k p e s m args below meth c C H locs ls hP hS hl)
theorem zsum (κ : zK) (S : List zV) : ((S.map (zv κ)).map fun v => v.category).sum = S.length := by
  induction S with
  | nil => rfl
  | cons a S ih => rw [List.map_cons, List.map_cons, List.sum_cons, ih, zcat, List.length_cons]; omega
theorem zR_min {x y : Int32} {idx : Nat} (hd : decode Y.2.1 pc = .ok (.invokestatic idx, 3)) (hlk : Cond.methodLink Y.1.cls idx Lib.Math.min.name ∈ zGW) (h8 : S.length ≤ 8) (k : zR κ (d + 1) Y (pc + 3) L (.inl (if y < x then y else x) :: S) mem Q) : zR κ (d + 1) Y pc L (.inl y :: .inl x :: S) mem Q := by
  intro p e s m args below meth c C H locs ls hP hS hl
  have hts := C.2.2.2.2.2.2.1
  exact va_mmin C.1 C.2.1 (C.2.2.1.trans hl.1.symm) C.2.2.2.2.2.1 (hts _ hlk) (hts _ zMin.1) (hts _ zMin.2.1) (hts _ zMin.2.2) (Nat.le_add_left _ _) (by rw [zsum]; show _ ≤ 40 * (d + 1); omega) (Nat.le_refl _) (Nat.le_refl _) hd (k p e s m args below meth c C H locs ls hP hS hl)
theorem zR_copy {q q' n n' idx i0 i1 i2 : Nat} {sp dp w : Int32} (hd : decode Y.2.1 pc = .ok (.invokestatic idx, 3)) (hlk : Cond.methodLink Y.1.cls idx arraycopyName ∈ zGW) (hs : shT[q]? = some (.inl n)) (hs' : shT[q']? = some (.inl n')) (h1 : ¬ sp < 0) (h2 : ¬ dp < 0) (h3 : ¬ w < 0) (e0 : sp.toNatClampNeg = i0) (e1 : dp.toNatClampNeg = i1) (e2 : w.toNatClampNeg = i2) (h4 : i0 + i2 ≤ n) (h5 : i1 + i2 ≤ n') (h8 : S.length ≤ 8) (k : zR κ (d + 1) Y (pc + 3) L S (zmr mem q' (va_cpy (mem q) (mem q') i0 i1 i2)) Q) : zR κ (d + 1) Y pc L (.inl w :: .inl dp :: .inr q' :: .inl sp :: .inr q :: S) mem Q := by
  subst e0; subst e1; subst e2
  intro p e s m args below meth c C H locs ls hP hS hl
  have hts := C.2.2.2.2.2.2.1
  refine va_copyi C.1 C.2.1 (C.2.2.1.trans hl.1.symm) C.2.2.2.2.2.1 (hts _ hlk) (hts _ zCopy.1) (hts _ zCopy.2.1) (hts _ zCopy.2.2) C.2.2.2.2.2.2.2.1 hP (zD C.2.2.2.2.2.2.2.2.2.1) hS q q' 0 0 (zw_get hs) (zw_get hs') rfl rfl rfl h1 h2 h3 h4 h5 (fun _ _ => rfl) (Nat.le_add_left _ _) (by rw [zsum, show nativeFrameWords "java/lang/System" "arraycopy" 5 = 7 from by decide +kernel]; show _ ≤ 40 * (d + 1); omega) hd (fun H1 locs1 hP1 hD1 hS1 => k p e s m args below meth c C H1 locs1 ls ?_ hS1 hl)
  rw [← zw_set hs']
  exact hP1
end zInstr
