/-! the law from its entry to its loop -/
section zStart
theorem zKn {s : State} {args : Array Value} (hts : ∀ w ∈ zGW, w.before args s = true) : ∃ (D : va_G) (cA : ClassId), va_K D zCl [(cA, .int)] s := by
  obtain ⟨cA, kA, comp, h1, h2, h3⟩ := Cond.arrayClass_spec (hts _ zArr)
  have h : ∀ c : Nat, ∃ p : ClassId × (Nat → Nat), ∀ q, zCl[c]? = some q → u_Kn s q.1 q.2.1 q.2.2 p.1 p.2 := by
    intro c
    cases hc : zCl[c]? with
    | none => exact ⟨(cA, fun _ => 0), fun q h => by cases h⟩
    | some q =>
      obtain ⟨n, hn⟩ := zInst hc
      obtain ⟨cC, iS, hk⟩ := u_known hts (zLay hc) (hts _ hn)
      exact ⟨(cC, iS), fun q' h => by cases h; exact hk⟩
  refine ⟨(fun c => (Classical.choose (h c)).1, fun c => (Classical.choose (h c)).2), cA, fun c q hq => Classical.choose_spec (h c) q hq, fun k q hk => ?_⟩
  cases k with
  | zero =>
    cases hk
    exact ⟨fun n z => ⟨fun k h => (by cases h), kA, h2, comp, h3⟩, h1⟩
  | succ k => simp at hk
abbrev zTd (s : State) (r : String × List Int32) (t : Nat) : Prop := va_Z "RingPacker" r.1 "[I" (.ref t) (fun q => s.heap.size ≤ q) s s.heap ∧ va_T .int t r.2.length (fun j => .int (r.2.getD j 0)) (fun q => s.heap.size ≤ q) s s.heap
theorem zTd_0 {s : State} {b : Nat} (hts : ∀ w ∈ lw_tbl, w.before #[Value.ref b] s = true) (hgv : (Jvm.Cond.and given_1 narrow_1).before #[Value.ref b] s = true) : ∃ t, zTd s ("INSERT_BASE", tv_0) t := by
  have hs := flat_of_before _ hgv
  obtain ⟨t, e, hT⟩ := va_Tof (tm := (Term.static "RingPacker" "INSERT_BASE" "[I")) (ty := .int) (N := 4) (f := fun j => .int (tv_0.getD j 0)) (A := fun q => s.heap.size ≤ q) (by decide) (hs (Cond.arrayOf (Term.static "RingPacker" "INSERT_BASE" "[I") .int) (by decide +kernel)) (va_eqt (hs (Cond.eq (Term.length (Term.static "RingPacker" "INSERT_BASE" "[I")) (.int 4)) (by decide +kernel))) (fun j hj => by
    rcases (show j = 0 ∨ j = 1 ∨ j = 2 ∨ j = 3 by omega) with rfl | rfl | rfl | rfl
    · exact va_eqt (hs (Cond.eq (Term.elem (Term.static "RingPacker" "INSERT_BASE" "[I") (.int 0)) (.int 0)) (by decide +kernel))
    · exact va_eqt (hs (Cond.eq (Term.elem (Term.static "RingPacker" "INSERT_BASE" "[I") (.int 1)) (.int 1)) (by decide +kernel))
    · exact va_eqt (hs (Cond.eq (Term.elem (Term.static "RingPacker" "INSERT_BASE" "[I") (.int 2)) (.int 2)) (by decide +kernel))
    · exact va_eqt (hs (Cond.eq (Term.elem (Term.static "RingPacker" "INSERT_BASE" "[I") (.int 3)) (.int 6)) (by decide +kernel))
    ) (fun a h => Nat.not_le.mpr h)
  exact ⟨t, va_Zof (hts (Cond.laysStatic "RingPacker" "INSERT_BASE" "[I") (List.mem_of_getElem? (i := 589) (by decide +kernel))) (hts (Cond.initialized "RingPacker") (List.mem_of_getElem? (i := 55) (by decide +kernel))) e (fun a h => Nat.not_le.mpr h), hT⟩
theorem zTd_1 {s : State} {b : Nat} (hts : ∀ w ∈ lw_tbl, w.before #[Value.ref b] s = true) (hgv : (Jvm.Cond.and given_1 narrow_1).before #[Value.ref b] s = true) : ∃ t, zTd s ("INSERT_BITS", tv_1) t := by
  have hs := flat_of_before _ hgv
  obtain ⟨t, e, hT⟩ := va_Tof (tm := (Term.static "RingPacker" "INSERT_BITS" "[I")) (ty := .int) (N := 4) (f := fun j => .int (tv_1.getD j 0)) (A := fun q => s.heap.size ≤ q) (by decide) (hs (Cond.arrayOf (Term.static "RingPacker" "INSERT_BITS" "[I") .int) (by decide +kernel)) (va_eqt (hs (Cond.eq (Term.length (Term.static "RingPacker" "INSERT_BITS" "[I")) (.int 4)) (by decide +kernel))) (fun j hj => by
    rcases (show j = 0 ∨ j = 1 ∨ j = 2 ∨ j = 3 by omega) with rfl | rfl | rfl | rfl
    · exact va_eqt (hs (Cond.eq (Term.elem (Term.static "RingPacker" "INSERT_BITS" "[I") (.int 0)) (.int 0)) (by decide +kernel))
    · exact va_eqt (hs (Cond.eq (Term.elem (Term.static "RingPacker" "INSERT_BITS" "[I") (.int 1)) (.int 0)) (by decide +kernel))
    · exact va_eqt (hs (Cond.eq (Term.elem (Term.static "RingPacker" "INSERT_BITS" "[I") (.int 2)) (.int 2)) (by decide +kernel))
    · exact va_eqt (hs (Cond.eq (Term.elem (Term.static "RingPacker" "INSERT_BITS" "[I") (.int 3)) (.int 6)) (by decide +kernel))
    ) (fun a h => Nat.not_le.mpr h)
  exact ⟨t, va_Zof (hts (Cond.laysStatic "RingPacker" "INSERT_BITS" "[I") (List.mem_of_getElem? (i := 666) (by decide +kernel))) (hts (Cond.initialized "RingPacker") (List.mem_of_getElem? (i := 55) (by decide +kernel))) e (fun a h => Nat.not_le.mpr h), hT⟩
theorem zTd_2 {s : State} {b : Nat} (hts : ∀ w ∈ lw_tbl, w.before #[Value.ref b] s = true) (hgv : (Jvm.Cond.and given_1 narrow_1).before #[Value.ref b] s = true) : ∃ t, zTd s ("COPY_BASE", tv_2) t := by
  have hs := flat_of_before _ hgv
  obtain ⟨t, e, hT⟩ := va_Tof (tm := (Term.static "RingPacker" "COPY_BASE" "[I")) (ty := .int) (N := 8) (f := fun j => .int (tv_2.getD j 0)) (A := fun q => s.heap.size ≤ q) (by decide) (hs (Cond.arrayOf (Term.static "RingPacker" "COPY_BASE" "[I") .int) (by decide +kernel)) (va_eqt (hs (Cond.eq (Term.length (Term.static "RingPacker" "COPY_BASE" "[I")) (.int 8)) (by decide +kernel))) (fun j hj => by
    rcases (show j = 0 ∨ j = 1 ∨ j = 2 ∨ j = 3 ∨ j = 4 ∨ j = 5 ∨ j = 6 ∨ j = 7 by omega) with rfl | rfl | rfl | rfl | rfl | rfl | rfl | rfl
    · exact va_eqt (hs (Cond.eq (Term.elem (Term.static "RingPacker" "COPY_BASE" "[I") (.int 0)) (.int 2)) (by decide +kernel))
    · exact va_eqt (hs (Cond.eq (Term.elem (Term.static "RingPacker" "COPY_BASE" "[I") (.int 1)) (.int 3)) (by decide +kernel))
    · exact va_eqt (hs (Cond.eq (Term.elem (Term.static "RingPacker" "COPY_BASE" "[I") (.int 2)) (.int 4)) (by decide +kernel))
    · exact va_eqt (hs (Cond.eq (Term.elem (Term.static "RingPacker" "COPY_BASE" "[I") (.int 3)) (.int 5)) (by decide +kernel))
    · exact va_eqt (hs (Cond.eq (Term.elem (Term.static "RingPacker" "COPY_BASE" "[I") (.int 4)) (.int 6)) (by decide +kernel))
    · exact va_eqt (hs (Cond.eq (Term.elem (Term.static "RingPacker" "COPY_BASE" "[I") (.int 5)) (.int 10)) (by decide +kernel))
    · exact va_eqt (hs (Cond.eq (Term.elem (Term.static "RingPacker" "COPY_BASE" "[I") (.int 6)) (.int 26)) (by decide +kernel))
    · exact va_eqt (hs (Cond.eq (Term.elem (Term.static "RingPacker" "COPY_BASE" "[I") (.int 7)) (.int 3)) (by decide +kernel))
    ) (fun a h => Nat.not_le.mpr h)
  exact ⟨t, va_Zof (hts (Cond.laysStatic "RingPacker" "COPY_BASE" "[I") (List.mem_of_getElem? (i := 514) (by decide +kernel))) (hts (Cond.initialized "RingPacker") (List.mem_of_getElem? (i := 55) (by decide +kernel))) e (fun a h => Nat.not_le.mpr h), hT⟩
theorem zTd_3 {s : State} {b : Nat} (hts : ∀ w ∈ lw_tbl, w.before #[Value.ref b] s = true) (hgv : (Jvm.Cond.and given_1 narrow_1).before #[Value.ref b] s = true) : ∃ t, zTd s ("COPY_BITS", tv_3) t := by
  have hs := flat_of_before _ hgv
  obtain ⟨t, e, hT⟩ := va_Tof (tm := (Term.static "RingPacker" "COPY_BITS" "[I")) (ty := .int) (N := 8) (f := fun j => .int (tv_3.getD j 0)) (A := fun q => s.heap.size ≤ q) (by decide) (hs (Cond.arrayOf (Term.static "RingPacker" "COPY_BITS" "[I") .int) (by decide +kernel)) (va_eqt (hs (Cond.eq (Term.length (Term.static "RingPacker" "COPY_BITS" "[I")) (.int 8)) (by decide +kernel))) (fun j hj => by
    rcases (show j = 0 ∨ j = 1 ∨ j = 2 ∨ j = 3 ∨ j = 4 ∨ j = 5 ∨ j = 6 ∨ j = 7 by omega) with rfl | rfl | rfl | rfl | rfl | rfl | rfl | rfl
    · exact va_eqt (hs (Cond.eq (Term.elem (Term.static "RingPacker" "COPY_BITS" "[I") (.int 0)) (.int 0)) (by decide +kernel))
    · exact va_eqt (hs (Cond.eq (Term.elem (Term.static "RingPacker" "COPY_BITS" "[I") (.int 1)) (.int 0)) (by decide +kernel))
    · exact va_eqt (hs (Cond.eq (Term.elem (Term.static "RingPacker" "COPY_BITS" "[I") (.int 2)) (.int 0)) (by decide +kernel))
    · exact va_eqt (hs (Cond.eq (Term.elem (Term.static "RingPacker" "COPY_BITS" "[I") (.int 3)) (.int 0)) (by decide +kernel))
    · exact va_eqt (hs (Cond.eq (Term.elem (Term.static "RingPacker" "COPY_BITS" "[I") (.int 4)) (.int 2)) (by decide +kernel))
    · exact va_eqt (hs (Cond.eq (Term.elem (Term.static "RingPacker" "COPY_BITS" "[I") (.int 5)) (.int 4)) (by decide +kernel))
    · exact va_eqt (hs (Cond.eq (Term.elem (Term.static "RingPacker" "COPY_BITS" "[I") (.int 6)) (.int 5)) (by decide +kernel))
    · exact va_eqt (hs (Cond.eq (Term.elem (Term.static "RingPacker" "COPY_BITS" "[I") (.int 7)) (.int 0)) (by decide +kernel))
    ) (fun a h => Nat.not_le.mpr h)
  exact ⟨t, va_Zof (hts (Cond.laysStatic "RingPacker" "COPY_BITS" "[I") (List.mem_of_getElem? (i := 669) (by decide +kernel))) (hts (Cond.initialized "RingPacker") (List.mem_of_getElem? (i := 55) (by decide +kernel))) e (fun a h => Nat.not_le.mpr h), hT⟩
theorem zTd_4 {s : State} {b : Nat} (hts : ∀ w ∈ lw_tbl, w.before #[Value.ref b] s = true) (hgv : (Jvm.Cond.and given_1 narrow_1).before #[Value.ref b] s = true) : ∃ t, zTd s ("DISTANCE_BASE", tv_4) t := by
  have hs := flat_of_before _ hgv
  obtain ⟨t, e, hT⟩ := va_Tof (tm := (Term.static "RingPacker" "DISTANCE_BASE" "[I")) (ty := .int) (N := 14) (f := fun j => .int (tv_4.getD j 0)) (A := fun q => s.heap.size ≤ q) (by decide) (hs (Cond.arrayOf (Term.static "RingPacker" "DISTANCE_BASE" "[I") .int) (by decide +kernel)) (va_eqt (hs (Cond.eq (Term.length (Term.static "RingPacker" "DISTANCE_BASE" "[I")) (.int 14)) (by decide +kernel))) (fun j hj => by
    rcases (show j = 0 ∨ j = 1 ∨ j = 2 ∨ j = 3 ∨ j = 4 ∨ j = 5 ∨ j = 6 ∨ j = 7 ∨ j = 8 ∨ j = 9 ∨ j = 10 ∨ j = 11 ∨ j = 12 ∨ j = 13 by omega) with rfl | rfl | rfl | rfl | rfl | rfl | rfl | rfl | rfl | rfl | rfl | rfl | rfl | rfl
    · exact va_eqt (hs (Cond.eq (Term.elem (Term.static "RingPacker" "DISTANCE_BASE" "[I") (.int 0)) (.int 0)) (by decide +kernel))
    · exact va_eqt (hs (Cond.eq (Term.elem (Term.static "RingPacker" "DISTANCE_BASE" "[I") (.int 1)) (.int 0)) (by decide +kernel))
    · exact va_eqt (hs (Cond.eq (Term.elem (Term.static "RingPacker" "DISTANCE_BASE" "[I") (.int 2)) (.int 0)) (by decide +kernel))
    · exact va_eqt (hs (Cond.eq (Term.elem (Term.static "RingPacker" "DISTANCE_BASE" "[I") (.int 3)) (.int 0)) (by decide +kernel))
    · exact va_eqt (hs (Cond.eq (Term.elem (Term.static "RingPacker" "DISTANCE_BASE" "[I") (.int 4)) (.int 0)) (by decide +kernel))
    · exact va_eqt (hs (Cond.eq (Term.elem (Term.static "RingPacker" "DISTANCE_BASE" "[I") (.int 5)) (.int 0)) (by decide +kernel))
    · exact va_eqt (hs (Cond.eq (Term.elem (Term.static "RingPacker" "DISTANCE_BASE" "[I") (.int 6)) (.int 1)) (by decide +kernel))
    · exact va_eqt (hs (Cond.eq (Term.elem (Term.static "RingPacker" "DISTANCE_BASE" "[I") (.int 7)) (.int 2)) (by decide +kernel))
    · exact va_eqt (hs (Cond.eq (Term.elem (Term.static "RingPacker" "DISTANCE_BASE" "[I") (.int 8)) (.int 3)) (by decide +kernel))
    · exact va_eqt (hs (Cond.eq (Term.elem (Term.static "RingPacker" "DISTANCE_BASE" "[I") (.int 9)) (.int 5)) (by decide +kernel))
    · exact va_eqt (hs (Cond.eq (Term.elem (Term.static "RingPacker" "DISTANCE_BASE" "[I") (.int 10)) (.int 9)) (by decide +kernel))
    · exact va_eqt (hs (Cond.eq (Term.elem (Term.static "RingPacker" "DISTANCE_BASE" "[I") (.int 11)) (.int 17)) (by decide +kernel))
    · exact va_eqt (hs (Cond.eq (Term.elem (Term.static "RingPacker" "DISTANCE_BASE" "[I") (.int 12)) (.int 33)) (by decide +kernel))
    · exact va_eqt (hs (Cond.eq (Term.elem (Term.static "RingPacker" "DISTANCE_BASE" "[I") (.int 13)) (.int 65)) (by decide +kernel))
    ) (fun a h => Nat.not_le.mpr h)
  exact ⟨t, va_Zof (hts (Cond.laysStatic "RingPacker" "DISTANCE_BASE" "[I") (List.mem_of_getElem? (i := 519) (by decide +kernel))) (hts (Cond.initialized "RingPacker") (List.mem_of_getElem? (i := 55) (by decide +kernel))) e (fun a h => Nat.not_le.mpr h), hT⟩
theorem zTd_5 {s : State} {b : Nat} (hts : ∀ w ∈ lw_tbl, w.before #[Value.ref b] s = true) (hgv : (Jvm.Cond.and given_1 narrow_1).before #[Value.ref b] s = true) : ∃ t, zTd s ("DISTANCE_BITS", tv_5) t := by
  have hs := flat_of_before _ hgv
  obtain ⟨t, e, hT⟩ := va_Tof (tm := (Term.static "RingPacker" "DISTANCE_BITS" "[I")) (ty := .int) (N := 14) (f := fun j => .int (tv_5.getD j 0)) (A := fun q => s.heap.size ≤ q) (by decide) (hs (Cond.arrayOf (Term.static "RingPacker" "DISTANCE_BITS" "[I") .int) (by decide +kernel)) (va_eqt (hs (Cond.eq (Term.length (Term.static "RingPacker" "DISTANCE_BITS" "[I")) (.int 14)) (by decide +kernel))) (fun j hj => by
    rcases (show j = 0 ∨ j = 1 ∨ j = 2 ∨ j = 3 ∨ j = 4 ∨ j = 5 ∨ j = 6 ∨ j = 7 ∨ j = 8 ∨ j = 9 ∨ j = 10 ∨ j = 11 ∨ j = 12 ∨ j = 13 by omega) with rfl | rfl | rfl | rfl | rfl | rfl | rfl | rfl | rfl | rfl | rfl | rfl | rfl | rfl
    · exact va_eqt (hs (Cond.eq (Term.elem (Term.static "RingPacker" "DISTANCE_BITS" "[I") (.int 0)) (.int 0)) (by decide +kernel))
    · exact va_eqt (hs (Cond.eq (Term.elem (Term.static "RingPacker" "DISTANCE_BITS" "[I") (.int 1)) (.int 0)) (by decide +kernel))
    · exact va_eqt (hs (Cond.eq (Term.elem (Term.static "RingPacker" "DISTANCE_BITS" "[I") (.int 2)) (.int 0)) (by decide +kernel))
    · exact va_eqt (hs (Cond.eq (Term.elem (Term.static "RingPacker" "DISTANCE_BITS" "[I") (.int 3)) (.int 0)) (by decide +kernel))
    · exact va_eqt (hs (Cond.eq (Term.elem (Term.static "RingPacker" "DISTANCE_BITS" "[I") (.int 4)) (.int 0)) (by decide +kernel))
    · exact va_eqt (hs (Cond.eq (Term.elem (Term.static "RingPacker" "DISTANCE_BITS" "[I") (.int 5)) (.int 0)) (by decide +kernel))
    · exact va_eqt (hs (Cond.eq (Term.elem (Term.static "RingPacker" "DISTANCE_BITS" "[I") (.int 6)) (.int 0)) (by decide +kernel))
    · exact va_eqt (hs (Cond.eq (Term.elem (Term.static "RingPacker" "DISTANCE_BITS" "[I") (.int 7)) (.int 0)) (by decide +kernel))
    · exact va_eqt (hs (Cond.eq (Term.elem (Term.static "RingPacker" "DISTANCE_BITS" "[I") (.int 8)) (.int 1)) (by decide +kernel))
    · exact va_eqt (hs (Cond.eq (Term.elem (Term.static "RingPacker" "DISTANCE_BITS" "[I") (.int 9)) (.int 2)) (by decide +kernel))
    · exact va_eqt (hs (Cond.eq (Term.elem (Term.static "RingPacker" "DISTANCE_BITS" "[I") (.int 10)) (.int 3)) (by decide +kernel))
    · exact va_eqt (hs (Cond.eq (Term.elem (Term.static "RingPacker" "DISTANCE_BITS" "[I") (.int 11)) (.int 4)) (by decide +kernel))
    · exact va_eqt (hs (Cond.eq (Term.elem (Term.static "RingPacker" "DISTANCE_BITS" "[I") (.int 12)) (.int 5)) (by decide +kernel))
    · exact va_eqt (hs (Cond.eq (Term.elem (Term.static "RingPacker" "DISTANCE_BITS" "[I") (.int 13)) (.int 6)) (by decide +kernel))
    ) (fun a h => Nat.not_le.mpr h)
  exact ⟨t, va_Zof (hts (Cond.laysStatic "RingPacker" "DISTANCE_BITS" "[I") (List.mem_of_getElem? (i := 672) (by decide +kernel))) (hts (Cond.initialized "RingPacker") (List.mem_of_getElem? (i := 55) (by decide +kernel))) e (fun a h => Nat.not_le.mpr h), hT⟩
theorem zTds {s : State} {b : Nat} (hts : ∀ w ∈ lw_tbl, w.before #[Value.ref b] s = true) (hgv : (Jvm.Cond.and given_1 narrow_1).before #[Value.ref b] s = true) : ∃ tad : Nat → Nat, ∀ (k : Nat) (r : String × List Int32), zTab[k]? = some r → zTd s r (tad k) := by
  obtain ⟨t0, h0⟩ := zTd_0 hts hgv
  obtain ⟨t1, h1⟩ := zTd_1 hts hgv
  obtain ⟨t2, h2⟩ := zTd_2 hts hgv
  obtain ⟨t3, h3⟩ := zTd_3 hts hgv
  obtain ⟨t4, h4⟩ := zTd_4 hts hgv
  obtain ⟨t5, h5⟩ := zTd_5 hts hgv
  refine ⟨fun k => if k = 0 then t0 else if k = 1 then t1 else if k = 2 then t2 else if k = 3 then t3 else if k = 4 then t4 else t5, fun k r hr => ?_⟩
  have hk : k < 6 := (List.getElem?_eq_some_iff.mp hr).1
  rcases (show k = 0 ∨ k = 1 ∨ k = 2 ∨ k = 3 ∨ k = 4 ∨ k = 5 by omega) with rfl | rfl | rfl | rfl | rfl | rfl
  · cases tb_0.symm.trans hr
    exact h0
  · cases tb_1.symm.trans hr
    exact h1
  · cases tb_2.symm.trans hr
    exact h2
  · cases tb_3.symm.trans hr
    exact h3
  · cases tb_4.symm.trans hr
    exact h4
  · cases tb_5.symm.trans hr
    exact h5
def zc0 (a b : Int32) : Nat → Int32 := fun k => if k = 0 then a else if k = 1 then b else 0
def zm0 : zM := fun p => if p = 11 then zc0 256 8 else if p = 16 then zc0 256 8 else if p = 21 then zc0 32 5 else if p = 26 then zc0 14 4 else if p = 48 then zc0 256 8 else if p = 53 then zc0 256 8 else if p = 58 then zc0 32 5 else if p = 63 then zc0 14 4 else fun _ => 0
def zEr (cA : ClassId) (f : Nat → Nat) : va_W := [(f 0, .inr (10, [.ref (f 1), .ref (f 3), .ref (f 5), .ref (f 6), .ref (f 41)])), (f 1, .inr (8, [.ref (f 2), .int 0])), (f 2, .inl (cA, 96, .inl (fun _ => 0))), (f 3, .inr (0, [.ref (f 4), .int 0, .int 0, .int 0])), (f 4, .inl (cA, 200, .inl (fun _ => 0))), (f 5, .inr (3, [.int 0, .int 0, .int 0, .int 0])), (f 6, .inr (5, [.ref (f 7), .ref (f 8), .ref (f 10), .ref (f 31)])), (f 7, .inr (3, [.int 0, .int 0, .int 0, .int 0])), (f 8, .inr (7, [.ref (f 9)])), (f 9, .inl (cA, 4, .inl (fun _ => 0))), (f 10, .inr (2, [.ref (f 11), .ref (f 16), .ref (f 21), .ref (f 26)])), (f 11, .inr (1, [.int 256, .int 8, .ref (f 13), .ref (f 14), .ref (f 15), .ref (f 12), .int 0])), (f 12, .inl (cA, 64, .inl (fun _ => 0))), (f 13, .inl (cA, 256, .inl (fun _ => 0))), (f 14, .inl (cA, 256, .inl (fun _ => 0))), (f 15, .inl (cA, 256, .inl (fun _ => 0))), (f 16, .inr (1, [.int 256, .int 8, .ref (f 18), .ref (f 19), .ref (f 20), .ref (f 17), .int 0])), (f 17, .inl (cA, 64, .inl (fun _ => 0))), (f 18, .inl (cA, 256, .inl (fun _ => 0))), (f 19, .inl (cA, 256, .inl (fun _ => 0))), (f 20, .inl (cA, 256, .inl (fun _ => 0))), (f 21, .inr (1, [.int 32, .int 5, .ref (f 23), .ref (f 24), .ref (f 25), .ref (f 22), .int 0])), (f 22, .inl (cA, 64, .inl (fun _ => 0))), (f 23, .inl (cA, 32, .inl (fun _ => 0))), (f 24, .inl (cA, 32, .inl (fun _ => 0))), (f 25, .inl (cA, 32, .inl (fun _ => 0))), (f 26, .inr (1, [.int 14, .int 4, .ref (f 28), .ref (f 29), .ref (f 30), .ref (f 27), .int 0])), (f 27, .inl (cA, 64, .inl (fun _ => 0))), (f 28, .inl (cA, 14, .inl (fun _ => 0))), (f 29, .inl (cA, 14, .inl (fun _ => 0))), (f 30, .inl (cA, 14, .inl (fun _ => 0))), (f 31, .inr (6, [.ref (f 32), .ref (f 33), .ref (f 35), .ref (f 36), .ref (f 37), .ref (f 38), .ref (f 39), .ref (f 40), .int 0, .int 0, .int 0, .int 0])), (f 32, .inr (4, [.int 0, .int 0, .int 0, .int 0, .int 0])), (f 33, .inr (7, [.ref (f 34)])), (f 34, .inl (cA, 4, .inl (fun _ => 0))), (f 35, .inl (cA, 48, .inl (fun _ => 0))), (f 36, .inl (cA, 48, .inl (fun _ => 0))), (f 37, .inl (cA, 48, .inl (fun _ => 0))), (f 38, .inl (cA, 48, .inl (fun _ => 0))), (f 39, .inl (cA, 48, .inl (fun _ => 0))), (f 40, .inl (cA, 48, .inl (fun _ => 0))), (f 41, .inr (9, [.ref (f 42), .ref (f 44), .ref (f 45), .ref (f 47)])), (f 42, .inr (8, [.ref (f 43), .int 0])), (f 43, .inl (cA, 96, .inl (fun _ => 0))), (f 44, .inr (3, [.int 0, .int 0, .int 0, .int 0])), (f 45, .inr (7, [.ref (f 46)])), (f 46, .inl (cA, 4, .inl (fun _ => 0))), (f 47, .inr (2, [.ref (f 48), .ref (f 53), .ref (f 58), .ref (f 63)])), (f 48, .inr (1, [.int 256, .int 8, .ref (f 50), .ref (f 51), .ref (f 52), .ref (f 49), .int 0])), (f 49, .inl (cA, 64, .inl (fun _ => 0))), (f 50, .inl (cA, 256, .inl (fun _ => 0))), (f 51, .inl (cA, 256, .inl (fun _ => 0))), (f 52, .inl (cA, 256, .inl (fun _ => 0))), (f 53, .inr (1, [.int 256, .int 8, .ref (f 55), .ref (f 56), .ref (f 57), .ref (f 54), .int 0])), (f 54, .inl (cA, 64, .inl (fun _ => 0))), (f 55, .inl (cA, 256, .inl (fun _ => 0))), (f 56, .inl (cA, 256, .inl (fun _ => 0))), (f 57, .inl (cA, 256, .inl (fun _ => 0))), (f 58, .inr (1, [.int 32, .int 5, .ref (f 60), .ref (f 61), .ref (f 62), .ref (f 59), .int 0])), (f 59, .inl (cA, 64, .inl (fun _ => 0))), (f 60, .inl (cA, 32, .inl (fun _ => 0))), (f 61, .inl (cA, 32, .inl (fun _ => 0))), (f 62, .inl (cA, 32, .inl (fun _ => 0))), (f 63, .inr (1, [.int 14, .int 4, .ref (f 65), .ref (f 66), .ref (f 67), .ref (f 64), .int 0])), (f 64, .inl (cA, 64, .inl (fun _ => 0))), (f 65, .inl (cA, 14, .inl (fun _ => 0))), (f 66, .inl (cA, 14, .inl (fun _ => 0))), (f 67, .inl (cA, 14, .inl (fun _ => 0)))]
def zEw (cA : ClassId) (f : Nat → Nat) : va_W := [(f 0, .inr (10, [.ref (f 1), .ref (f 3), .ref (f 5), .ref (f 6), .ref (f 41)])), (f 1, .inr (8, [.ref (f 2), .int 0])), (f 2, .inl (cA, 96, .inl (fun _ => 0))), (f 3, .inr (0, [.ref (f 4), .int 0, .int 0, .int 0])), (f 4, .inl (cA, 200, .inl (fun _ => 0))), (f 5, .inr (3, [.int 0, .int 0, .int 0, .int 0])), (f 6, .inr (5, [.ref (f 7), .ref (f 8), .ref (f 10), .ref (f 31)])), (f 7, .inr (3, [.int 0, .int 0, .int 0, .int 0])), (f 8, .inr (7, [.ref (f 9)])), (f 9, .inl (cA, 4, .inl (fun _ => 0))), (f 10, .inr (2, [.ref (f 11), .ref (f 16), .ref (f 21), .ref (f 26)])), (f 11, .inr (1, [.int 256, .int 8, .ref (f 13), .ref (f 14), .ref (f 15), .ref (f 12), .int 0])), (f 12, .inl (cA, 64, .inl (fun _ => 0))), (f 13, .inl (cA, 256, .inl (fun _ => 0))), (f 14, .inl (cA, 256, .inl (fun _ => 0))), (f 15, .inl (cA, 256, .inl (fun _ => 0))), (f 16, .inr (1, [.int 256, .int 8, .ref (f 18), .ref (f 19), .ref (f 20), .ref (f 17), .int 0])), (f 17, .inl (cA, 64, .inl (fun _ => 0))), (f 18, .inl (cA, 256, .inl (fun _ => 0))), (f 19, .inl (cA, 256, .inl (fun _ => 0))), (f 20, .inl (cA, 256, .inl (fun _ => 0))), (f 21, .inr (1, [.int 32, .int 5, .ref (f 23), .ref (f 24), .ref (f 25), .ref (f 22), .int 0])), (f 22, .inl (cA, 64, .inl (fun _ => 0))), (f 23, .inl (cA, 32, .inl (fun _ => 0))), (f 24, .inl (cA, 32, .inl (fun _ => 0))), (f 25, .inl (cA, 32, .inl (fun _ => 0))), (f 26, .inr (1, [.int 14, .int 4, .ref (f 28), .ref (f 29), .ref (f 30), .ref (f 27), .int 0])), (f 27, .inl (cA, 64, .inl (fun _ => 0))), (f 28, .inl (cA, 14, .inl (fun _ => 0))), (f 29, .inl (cA, 14, .inl (fun _ => 0))), (f 30, .inl (cA, 14, .inl (fun _ => 0))), (f 31, .inr (6, [.ref (f 32), .ref (f 33), .ref (f 35), .ref (f 36), .ref (f 37), .ref (f 38), .ref (f 39), .ref (f 40), .int 0, .int 0, .int 0, .int 0])), (f 32, .inr (4, [.int 0, .int 0, .int 0, .int 0, .int 0])), (f 33, .inr (7, [.ref (f 34)])), (f 34, .inl (cA, 4, .inl (fun _ => 0))), (f 35, .inl (cA, 48, .inl (fun _ => 0))), (f 36, .inl (cA, 48, .inl (fun _ => 0))), (f 37, .inl (cA, 48, .inl (fun _ => 0))), (f 38, .inl (cA, 48, .inl (fun _ => 0))), (f 39, .inl (cA, 48, .inl (fun _ => 0))), (f 40, .inl (cA, 48, .inl (fun _ => 0))), (f 41, .inr (9, [.ref (f 42), .ref (f 44), .ref (f 45), .ref (f 47)])), (f 42, .inr (8, [.ref (f 43), .int 0])), (f 43, .inl (cA, 96, .inl (fun _ => 0))), (f 44, .inr (3, [.int 0, .int 0, .int 0, .int 0])), (f 45, .inr (7, [.ref (f 46)])), (f 46, .inl (cA, 4, .inl (fun _ => 0))), (f 47, .inr (2, [.ref (f 48), .ref (f 53), .ref (f 58), .ref (f 63)])), (f 48, .inr (1, [.int 256, .int 8, .ref (f 50), .ref (f 51), .ref (f 52), .ref (f 49), .int 0])), (f 49, .inl (cA, 64, .inl (fun _ => 0))), (f 50, .inl (cA, 256, .inl (fun _ => 0))), (f 51, .inl (cA, 256, .inl (fun _ => 0))), (f 52, .inl (cA, 256, .inl (fun _ => 0))), (f 53, .inr (1, [.int 256, .int 8, .ref (f 55), .ref (f 56), .ref (f 57), .ref (f 54), .int 0])), (f 54, .inl (cA, 64, .inl (fun _ => 0))), (f 55, .inl (cA, 256, .inl (fun _ => 0))), (f 56, .inl (cA, 256, .inl (fun _ => 0))), (f 57, .inl (cA, 256, .inl (fun _ => 0))), (f 58, .inr (1, [.int 32, .int 5, .ref (f 60), .ref (f 61), .ref (f 62), .ref (f 59), .int 0])), (f 59, .inl (cA, 64, .inl (fun _ => 0))), (f 60, .inl (cA, 32, .inl (fun _ => 0))), (f 61, .inl (cA, 32, .inl (fun _ => 0))), (f 62, .inl (cA, 32, .inl (fun _ => 0))), (f 63, .inr (1, [.int 14, .int 4, .ref (f 65), .ref (f 66), .ref (f 67), .ref (f 64), .int 0])), (f 64, .inl (cA, 64, .inl (fun _ => 0))), (f 65, .inl (cA, 14, .inl (fun _ => 0))), (f 66, .inl (cA, 14, .inl (fun _ => 0))), (f 67, .inl (cA, 14, .inl (fun _ => 0))), (f 68, .inr (11, [.int 0, .ref (f 69), .int 0, .ref (f 70), .int 0, .int 0, .int 0, .int 0, .int 0, .ref (f 71), .ref (f 72), .ref (f 73), .ref (f 74), .ref (f 75), .ref (f 76), .int 0, .ref (f 77), .ref (f 78), .ref (f 79), .ref (f 80), .ref (f 81), .ref (f 82), .ref (f 83), .int 0, .int 0, .int 0, .int 0, .int 0, .int 0, .int 0, .ref (f 84)])), (f 69, .inl (cA, 96, .inl (fun _ => 0))), (f 70, .inl (cA, 200, .inl (fun _ => 0))), (f 71, .inl (cA, 4000, .inl (fun _ => 0))), (f 72, .inl (cA, 1024, .inl (fun _ => 0))), (f 73, .inl (cA, 1024, .inl (fun _ => 0))), (f 74, .inl (cA, 1024, .inl (fun _ => 0))), (f 75, .inl (cA, 4, .inl (fun _ => 0))), (f 76, .inl (cA, 4, .inl (fun _ => 0))), (f 77, .inl (cA, 50, .inl (fun _ => 0))), (f 78, .inl (cA, 50, .inl (fun _ => 0))), (f 79, .inl (cA, 50, .inl (fun _ => 0))), (f 80, .inl (cA, 50, .inl (fun _ => 0))), (f 81, .inl (cA, 50, .inl (fun _ => 0))), (f 82, .inl (cA, 50, .inl (fun _ => 0))), (f 83, .inl (cA, 50, .inl (fun _ => 0))), (f 84, .inl (cA, 96, .inl (fun _ => 0)))]
def zad (f g : Nat → Nat) (far : Nat → Nat) : Nat → Nat := fun k => if k < 68 then f k else if k < 85 then g (k - 68) else far k
def zfl (κ : zK) (f : Nat → Int32) : Nat → List (Option Nat) → List Value
  | _, [] => []
  | k, o :: l => zf κ f k o :: zfl κ f (k + 1) l
theorem zfl_get {κ : zK} {f : Nat → Int32} : ∀ (fs : List (Option Nat)) (i k : Nat), (zfl κ f i fs)[k]? = fs[k]?.map (zf κ f (i + k)) := by
  intro fs
  induction fs with
  | nil => intro i k; simp [zfl]
  | cons o l ih =>
    intro i k
    cases k with
    | zero => simp [zfl]
    | succ k =>
      rw [zfl, List.getElem?_cons_succ, List.getElem?_cons_succ, ih, show i + 1 + k = i + (k + 1) by omega]
theorem zfl_eq {κ : zK} {f : Nat → Int32} (fs : List (Option Nat)) : fs.mapIdx (zf κ f) = zfl κ f 0 fs := by
  apply List.ext_getElem?
  intro j
  rw [List.getElem?_mapIdx, zfl_get, Nat.zero_add]
theorem ze_o {κ : zK} {f : Nat → Int32} {ci : Nat} {fs : List (Option Nat)} : ze κ (.inr (ci, fs)) f = .inr (ci, zfl κ f 0 fs) := by rw [← zfl_eq]; rfl
theorem zw_at {κ : zK} {mem : zM} {p : Nat} {e : zSh} {x : va_E} (h : shT[p]? = some e) (hx : x = ze κ e (mem p)) : some (κ.2.2.1 p, x) = (zw κ mem)[p]? := by rw [zw_get h, hx]
set_option maxRecDepth 100000 in
set_option maxHeartbeats 4000000 in
theorem zw_E {l : Launch} {D : va_G} {cA : ClassId} {ad : Nat → Nat} : zEw cA ad = zw (l, D, ad, cA) zm0 := by
  apply List.ext_getElem?
  intro j
  by_cases hj : j < 85
  · rcases (show j = 0 ∨ j = 1 ∨ j = 2 ∨ j = 3 ∨ j = 4 ∨ j = 5 ∨ j = 6 ∨ j = 7 ∨ j = 8 ∨ j = 9 ∨ j = 10 ∨ j = 11 ∨ j = 12 ∨ j = 13 ∨ j = 14 ∨ j = 15 ∨ j = 16 ∨ j = 17 ∨ j = 18 ∨ j = 19 ∨ j = 20 ∨ j = 21 ∨ j = 22 ∨ j = 23 ∨ j = 24 ∨ j = 25 ∨ j = 26 ∨ j = 27 ∨ j = 28 ∨ j = 29 ∨ j = 30 ∨ j = 31 ∨ j = 32 ∨ j = 33 ∨ j = 34 ∨ j = 35 ∨ j = 36 ∨ j = 37 ∨ j = 38 ∨ j = 39 ∨ j = 40 ∨ j = 41 ∨ j = 42 ∨ j = 43 ∨ j = 44 ∨ j = 45 ∨ j = 46 ∨ j = 47 ∨ j = 48 ∨ j = 49 ∨ j = 50 ∨ j = 51 ∨ j = 52 ∨ j = 53 ∨ j = 54 ∨ j = 55 ∨ j = 56 ∨ j = 57 ∨ j = 58 ∨ j = 59 ∨ j = 60 ∨ j = 61 ∨ j = 62 ∨ j = 63 ∨ j = 64 ∨ j = 65 ∨ j = 66 ∨ j = 67 ∨ j = 68 ∨ j = 69 ∨ j = 70 ∨ j = 71 ∨ j = 72 ∨ j = 73 ∨ j = 74 ∨ j = 75 ∨ j = 76 ∨ j = 77 ∨ j = 78 ∨ j = 79 ∨ j = 80 ∨ j = 81 ∨ j = 82 ∨ j = 83 ∨ j = 84 by omega) with rfl | rfl | rfl | rfl | rfl | rfl | rfl | rfl | rfl | rfl | rfl | rfl | rfl | rfl | rfl | rfl | rfl | rfl | rfl | rfl | rfl | rfl | rfl | rfl | rfl | rfl | rfl | rfl | rfl | rfl | rfl | rfl | rfl | rfl | rfl | rfl | rfl | rfl | rfl | rfl | rfl | rfl | rfl | rfl | rfl | rfl | rfl | rfl | rfl | rfl | rfl | rfl | rfl | rfl | rfl | rfl | rfl | rfl | rfl | rfl | rfl | rfl | rfl | rfl | rfl | rfl | rfl | rfl | rfl | rfl | rfl | rfl | rfl | rfl | rfl | rfl | rfl | rfl | rfl | rfl | rfl | rfl | rfl | rfl | rfl
    · exact zw_at (κ := (l, D, ad, cA)) (mem := zm0) sh_0 (by rw [ze_o]; rfl)
    · exact zw_at (κ := (l, D, ad, cA)) (mem := zm0) sh_1 (by rw [ze_o]; rfl)
    · exact zw_at (κ := (l, D, ad, cA)) (mem := zm0) sh_2 rfl
    · exact zw_at (κ := (l, D, ad, cA)) (mem := zm0) sh_3 (by rw [ze_o]; rfl)
    · exact zw_at (κ := (l, D, ad, cA)) (mem := zm0) sh_4 rfl
    · exact zw_at (κ := (l, D, ad, cA)) (mem := zm0) sh_5 (by rw [ze_o]; rfl)
    · exact zw_at (κ := (l, D, ad, cA)) (mem := zm0) sh_6 (by rw [ze_o]; rfl)
    · exact zw_at (κ := (l, D, ad, cA)) (mem := zm0) sh_7 (by rw [ze_o]; rfl)
    · exact zw_at (κ := (l, D, ad, cA)) (mem := zm0) sh_8 (by rw [ze_o]; rfl)
    · exact zw_at (κ := (l, D, ad, cA)) (mem := zm0) sh_9 rfl
    · exact zw_at (κ := (l, D, ad, cA)) (mem := zm0) sh_10 (by rw [ze_o]; rfl)
    · exact zw_at (κ := (l, D, ad, cA)) (mem := zm0) sh_11 (by rw [ze_o]; rfl)
    · exact zw_at (κ := (l, D, ad, cA)) (mem := zm0) sh_12 rfl
    · exact zw_at (κ := (l, D, ad, cA)) (mem := zm0) sh_13 rfl
    · exact zw_at (κ := (l, D, ad, cA)) (mem := zm0) sh_14 rfl
    · exact zw_at (κ := (l, D, ad, cA)) (mem := zm0) sh_15 rfl
    · exact zw_at (κ := (l, D, ad, cA)) (mem := zm0) sh_16 (by rw [ze_o]; rfl)
    · exact zw_at (κ := (l, D, ad, cA)) (mem := zm0) sh_17 rfl
    · exact zw_at (κ := (l, D, ad, cA)) (mem := zm0) sh_18 rfl
    · exact zw_at (κ := (l, D, ad, cA)) (mem := zm0) sh_19 rfl
    · exact zw_at (κ := (l, D, ad, cA)) (mem := zm0) sh_20 rfl
    · exact zw_at (κ := (l, D, ad, cA)) (mem := zm0) sh_21 (by rw [ze_o]; rfl)
    · exact zw_at (κ := (l, D, ad, cA)) (mem := zm0) sh_22 rfl
    · exact zw_at (κ := (l, D, ad, cA)) (mem := zm0) sh_23 rfl
    · exact zw_at (κ := (l, D, ad, cA)) (mem := zm0) sh_24 rfl
    · exact zw_at (κ := (l, D, ad, cA)) (mem := zm0) sh_25 rfl
    · exact zw_at (κ := (l, D, ad, cA)) (mem := zm0) sh_26 (by rw [ze_o]; rfl)
    · exact zw_at (κ := (l, D, ad, cA)) (mem := zm0) sh_27 rfl
    · exact zw_at (κ := (l, D, ad, cA)) (mem := zm0) sh_28 rfl
    · exact zw_at (κ := (l, D, ad, cA)) (mem := zm0) sh_29 rfl
    · exact zw_at (κ := (l, D, ad, cA)) (mem := zm0) sh_30 rfl
    · exact zw_at (κ := (l, D, ad, cA)) (mem := zm0) sh_31 (by rw [ze_o]; rfl)
    · exact zw_at (κ := (l, D, ad, cA)) (mem := zm0) sh_32 (by rw [ze_o]; rfl)
    · exact zw_at (κ := (l, D, ad, cA)) (mem := zm0) sh_33 (by rw [ze_o]; rfl)
    · exact zw_at (κ := (l, D, ad, cA)) (mem := zm0) sh_34 rfl
    · exact zw_at (κ := (l, D, ad, cA)) (mem := zm0) sh_35 rfl
    · exact zw_at (κ := (l, D, ad, cA)) (mem := zm0) sh_36 rfl
    · exact zw_at (κ := (l, D, ad, cA)) (mem := zm0) sh_37 rfl
    · exact zw_at (κ := (l, D, ad, cA)) (mem := zm0) sh_38 rfl
    · exact zw_at (κ := (l, D, ad, cA)) (mem := zm0) sh_39 rfl
    · exact zw_at (κ := (l, D, ad, cA)) (mem := zm0) sh_40 rfl
    · exact zw_at (κ := (l, D, ad, cA)) (mem := zm0) sh_41 (by rw [ze_o]; rfl)
    · exact zw_at (κ := (l, D, ad, cA)) (mem := zm0) sh_42 (by rw [ze_o]; rfl)
    · exact zw_at (κ := (l, D, ad, cA)) (mem := zm0) sh_43 rfl
    · exact zw_at (κ := (l, D, ad, cA)) (mem := zm0) sh_44 (by rw [ze_o]; rfl)
    · exact zw_at (κ := (l, D, ad, cA)) (mem := zm0) sh_45 (by rw [ze_o]; rfl)
    · exact zw_at (κ := (l, D, ad, cA)) (mem := zm0) sh_46 rfl
    · exact zw_at (κ := (l, D, ad, cA)) (mem := zm0) sh_47 (by rw [ze_o]; rfl)
    · exact zw_at (κ := (l, D, ad, cA)) (mem := zm0) sh_48 (by rw [ze_o]; rfl)
    · exact zw_at (κ := (l, D, ad, cA)) (mem := zm0) sh_49 rfl
    · exact zw_at (κ := (l, D, ad, cA)) (mem := zm0) sh_50 rfl
    · exact zw_at (κ := (l, D, ad, cA)) (mem := zm0) sh_51 rfl
    · exact zw_at (κ := (l, D, ad, cA)) (mem := zm0) sh_52 rfl
    · exact zw_at (κ := (l, D, ad, cA)) (mem := zm0) sh_53 (by rw [ze_o]; rfl)
    · exact zw_at (κ := (l, D, ad, cA)) (mem := zm0) sh_54 rfl
    · exact zw_at (κ := (l, D, ad, cA)) (mem := zm0) sh_55 rfl
    · exact zw_at (κ := (l, D, ad, cA)) (mem := zm0) sh_56 rfl
    · exact zw_at (κ := (l, D, ad, cA)) (mem := zm0) sh_57 rfl
    · exact zw_at (κ := (l, D, ad, cA)) (mem := zm0) sh_58 (by rw [ze_o]; rfl)
    · exact zw_at (κ := (l, D, ad, cA)) (mem := zm0) sh_59 rfl
    · exact zw_at (κ := (l, D, ad, cA)) (mem := zm0) sh_60 rfl
    · exact zw_at (κ := (l, D, ad, cA)) (mem := zm0) sh_61 rfl
    · exact zw_at (κ := (l, D, ad, cA)) (mem := zm0) sh_62 rfl
    · exact zw_at (κ := (l, D, ad, cA)) (mem := zm0) sh_63 (by rw [ze_o]; rfl)
    · exact zw_at (κ := (l, D, ad, cA)) (mem := zm0) sh_64 rfl
    · exact zw_at (κ := (l, D, ad, cA)) (mem := zm0) sh_65 rfl
    · exact zw_at (κ := (l, D, ad, cA)) (mem := zm0) sh_66 rfl
    · exact zw_at (κ := (l, D, ad, cA)) (mem := zm0) sh_67 rfl
    · exact zw_at (κ := (l, D, ad, cA)) (mem := zm0) sh_68 (by rw [ze_o]; rfl)
    · exact zw_at (κ := (l, D, ad, cA)) (mem := zm0) sh_69 rfl
    · exact zw_at (κ := (l, D, ad, cA)) (mem := zm0) sh_70 rfl
    · exact zw_at (κ := (l, D, ad, cA)) (mem := zm0) sh_71 rfl
    · exact zw_at (κ := (l, D, ad, cA)) (mem := zm0) sh_72 rfl
    · exact zw_at (κ := (l, D, ad, cA)) (mem := zm0) sh_73 rfl
    · exact zw_at (κ := (l, D, ad, cA)) (mem := zm0) sh_74 rfl
    · exact zw_at (κ := (l, D, ad, cA)) (mem := zm0) sh_75 rfl
    · exact zw_at (κ := (l, D, ad, cA)) (mem := zm0) sh_76 rfl
    · exact zw_at (κ := (l, D, ad, cA)) (mem := zm0) sh_77 rfl
    · exact zw_at (κ := (l, D, ad, cA)) (mem := zm0) sh_78 rfl
    · exact zw_at (κ := (l, D, ad, cA)) (mem := zm0) sh_79 rfl
    · exact zw_at (κ := (l, D, ad, cA)) (mem := zm0) sh_80 rfl
    · exact zw_at (κ := (l, D, ad, cA)) (mem := zm0) sh_81 rfl
    · exact zw_at (κ := (l, D, ad, cA)) (mem := zm0) sh_82 rfl
    · exact zw_at (κ := (l, D, ad, cA)) (mem := zm0) sh_83 rfl
    · exact zw_at (κ := (l, D, ad, cA)) (mem := zm0) sh_84 rfl
  · have h1 : (zEw cA ad).length = 85 := rfl
    have h2 : (zw (l, D, ad, cA) zm0).length = 85 := by unfold zw; rw [List.length_mapIdx]; rfl
    rw [List.getElem?_eq_none (by omega), List.getElem?_eq_none (by omega)]
end zStart
