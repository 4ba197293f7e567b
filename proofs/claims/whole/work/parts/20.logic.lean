/-! A small logic over the kit: zR says that a method, from a place in its code, with known locals, stack and numbers in the world, comes to its end, and what holds there. The world is the fixed list of cells shT (names part); what changes is the numbers 'mem place index'. -/
section zLogic
abbrev zV : Type := Int32 ⊕ Nat
abbrev zM : Type := Nat → Nat → Int32
abbrev zY : Type := MethodName × ByteArray × Nat × Option FieldType
abbrev zK : Type := Launch × va_G × (Nat → Nat) × ClassId
def zv (κ : zK) (v : zV) : Value := match v with
  | .inl x => .int x
  | .inr q => .ref (κ.2.2.1 q)
def zf (κ : zK) (f : Nat → Int32) (k : Nat) (o : Option Nat) : Value := match o with
  | none => .int (f k)
  | some q => .ref (κ.2.2.1 q)
def ze (κ : zK) (e : zSh) (f : Nat → Int32) : va_E := match e with
  | .inl n => .inl (κ.2.2.2, n, .inl f)
  | .inr o => .inr (o.1, o.2.mapIdx (zf κ f))
def zw (κ : zK) (mem : zM) : va_W := shT.mapIdx (fun p e => (κ.2.2.1 p, ze κ e (mem p)))
/-- a whole row anew, a number anew -/
def zmr (mem : zM) (p : Nat) (f : Nat → Int32) : zM := fun q => if q = p then f else mem q
def zms (mem : zM) (p k : Nat) (v : Int32) : zM := zmr mem p (upd (mem p) k v)
/-- the addresses of the world; they are apart -/
def zA (κ : zK) : Nat → Prop := fun q => ∃ p, p < shT.length ∧ q = κ.2.2.1 p
def zI (κ : zK) : Prop := ∀ i j, i < shT.length → j < shT.length → κ.2.2.1 i = κ.2.2.1 j → i = j
/-- the tables that nobody writes lie at places 1000 and on -/
def zTb (κ : zK) (s : State) : Prop := ∀ (k : Nat) (r : String × List Int32), zTab[k]? = some r → va_Z "RingPacker" r.1 "[I" (.ref (κ.2.2.1 (1000 + k))) (zA κ) s s.heap ∧ va_T .int (κ.2.2.1 (1000 + k)) r.2.length (fun j => .int (r.2.getD j 0)) (zA κ) s s.heap
/-- the two words' texts: the objects at places 2000, 2001, their bytes at 2010, 2011 -/
def zSL : List Nat := [16, 20]
def zSB : List (List Int32) := [[116, 104, 97, 116, 119, 105, 116, 104, 102, 114, 111, 109, 104, 97, 118, 101], [119, 104, 105, 99, 104, 116, 104, 101, 114, 101, 116, 104, 101, 105, 114, 97, 98, 111, 117, 116]]
def zSt (κ : zK) (s : State) : Prop := vk_R "RingPacker$Words" 9 "thatwithfromhave" (κ.2.2.1 2000) s ∧ vk_R "RingPacker$Words" 11 "whichtheretheirabout" (κ.2.2.1 2001) s ∧ vk_S 2 zSL zSB (fun i => κ.2.2.1 (2000 + i)) (fun i => κ.2.2.1 (2010 + i)) (zA κ) s s.heap ∧ va_Z "java/lang/String" "COMPACT_STRINGS" "Z" (.int 1) (zA κ) s s.heap ∧ va_Zq "jdk/internal/util/Preconditions" "SIOOBE_FORMATTER" "Ljava/util/function/BiFunction;" (zA κ) s s.heap
abbrev zX (κ : zK) (s : State) : Prop := va_K κ.2.1 zCl [(κ.2.2.2, .int)] s ∧ (∀ w ∈ zNW, va_Nw w s) ∧ zI κ ∧ zTb κ s ∧ zSt κ s
abbrev zC (κ : zK) (Y : zY) (p : Program) (s : State) (m : MethodId) (args : Array Value) (meth : Method) (c : Code) : Prop :=
  p.tables.exec = Jvm.exec ∧ c.code = Y.2.1 ∧ c.maxLocals = Y.2.2.1 ∧ meth.sig.returnType = Y.2.2.2 ∧ meth.locks = false ∧ s.vm.findClass Y.1.cls = some m.cls ∧ (∀ w ∈ zGW, w.before args s = true) ∧ zX κ s
def zQ (κ : zK) (Q : Option zV → zM → Prop) : Array Value → State → Outcome → State → Prop := fun _ st oc t =>
  (∃ (r : Option zV) (mem : zM), oc = .returned (r.map (zv κ)) ∧ Q r mem ∧ va_P κ.2.1 zCl (zw κ mem) t.heap) ∧ va_F (zA κ) st t
def zrm (d : Nat) : Room := { frames := d, cells := 0, slots := 0, locals := 40 * d }
def zl (κ : zK) : Nat → List (Option zV) → List (Nat × Value)
  | _, [] => []
  | i, none :: L => zl κ (i + 1) L
  | i, some v :: L => (i, zv κ v) :: zl κ (i + 1) L
def zR (κ : zK) (d : Nat) (Y : zY) (pc : Nat) (L : List (Option zV)) (S : List zV) (mem : zM) (Q : Option zV → zM → Prop) : Prop :=
  ∀ (p : Program) (e : Env) (s : State) (m : MethodId) (args : Array Value) (below : List Frame) (meth : Method) (c : Code), zC κ Y p s m args meth c →
    ∀ (H : Heap) (locs : List Loc) (ls : Array Slot), va_P κ.2.1 zCl (zw κ mem) H → va_S (zA κ) s.heap H locs → lv_has ls Y.2.2.1 (zl κ 0 L) →
      W p κ.1 e (zrm d) s m args below meth c H locs 0 0 (MQ below (zQ κ Q) args s 0 0 (zA κ)) (F0 m pc ls (S.map (zv κ)))
def zent (A : List zV) (n : Nat) : List (Option zV) := A.map some ++ List.replicate (n - A.length) none
def zws (Y : zY) : List Cond := Cond.code Y.1 Y.2.1 Y.2.2.1 Y.2.2.2 :: zGW
/-! the world's list -/
theorem zw_get {κ : zK} {mem : zM} {p : Nat} {e : zSh} (h : shT[p]? = some e) : (zw κ mem)[p]? = some (κ.2.2.1 p, ze κ e (mem p)) := by
  unfold zw
  rw [List.getElem?_mapIdx, h]
  rfl
theorem zw_set {κ : zK} {mem : zM} {p : Nat} {e : zSh} (h : shT[p]? = some e) (f : Nat → Int32) : (zw κ mem).set p (κ.2.2.1 p, ze κ e f) = zw κ (zmr mem p f) := by
  apply List.ext_getElem?
  intro j
  rw [List.getElem?_set]
  by_cases hj : p = j
  · subst hj
    have hl : p < (zw κ mem).length := (List.getElem?_eq_some_iff.mp (zw_get h)).1
    rw [if_pos rfl, if_pos hl, zw_get h]
    show some (κ.2.2.1 p, ze κ e f) = some (κ.2.2.1 p, ze κ e (zmr mem p f p))
    rw [show zmr mem p f p = f from if_pos rfl]
  · rw [if_neg hj]
    unfold zw
    rw [List.getElem?_mapIdx, List.getElem?_mapIdx]
    cases hs : shT[j]? with
    | none => rfl
    | some e' =>
      show some (κ.2.2.1 j, ze κ e' (mem j)) = some (κ.2.2.1 j, ze κ e' (zmr mem p f j))
      rw [show zmr mem p f j = mem j from if_neg (fun z => hj z.symm)]
theorem zf_get {κ : zK} {f : Nat → Int32} {fs : List (Option Nat)} {k : Nat} {o : Option Nat} (h : fs[k]? = some o) : (fs.mapIdx (zf κ f))[k]? = some (zf κ f k o) := by
  rw [List.getElem?_mapIdx, h]
  rfl
theorem zf_set {κ : zK} {f : Nat → Int32} {fs : List (Option Nat)} {k : Nat} {v : Int32} (h : fs[k]? = some none) : (fs.mapIdx (zf κ f)).set k (.int v) = fs.mapIdx (zf κ (upd f k v)) := by
  apply List.ext_getElem?
  intro j
  rw [List.getElem?_set, List.getElem?_mapIdx, List.getElem?_mapIdx]
  by_cases hj : k = j
  · subst hj
    have hl : k < (fs.mapIdx (zf κ f)).length := (List.getElem?_eq_some_iff.mp (zf_get (κ := κ) (f := f) h)).1
    rw [if_pos rfl, if_pos hl, h]
    show some (Value.int v) = some (Value.int (upd f k v k))
    rw [pk_us]
  · rw [if_neg hj]
    cases hs : fs[j]? with
    | none => rfl
    | some o =>
      cases o with
      | none =>
        show some (Value.int (f j)) = some (Value.int (upd f k v j))
        rw [pk_un (fun z => hj z.symm)]
      | some q => rfl
theorem zD {κ : zK} {mem : zM} (h : zI κ) : va_D (zA κ) (zw κ mem) := by
  have key : ∀ (i : Nat) (q : Nat × va_E), (zw κ mem)[i]? = some q → i < shT.length ∧ q.1 = κ.2.2.1 i := by
    intro i q hq
    unfold zw at hq
    rw [List.getElem?_mapIdx] at hq
    cases hs : shT[i]? with
    | none => rw [hs] at hq; cases hq
    | some e =>
      rw [hs] at hq
      have hq' : some (κ.2.2.1 i, ze κ e (mem i)) = some q := hq
      cases hq'
      exact ⟨(List.getElem?_eq_some_iff.mp hs).1, rfl⟩
  refine ⟨fun i j x y hx hy hxy => ?_, fun k q hq => ?_⟩
  · obtain ⟨h1, h2⟩ := key i x hx
    obtain ⟨h3, h4⟩ := key j y hy
    exact h i j h1 h3 (by rw [← h2, ← h4]; exact hxy)
  · obtain ⟨h1, h2⟩ := key k q hq
    exact ⟨k, h1, h2⟩
/-! locals -/
theorem zcat (κ : zK) (v : zV) : (zv κ v).category = 1 := by cases v <;> rfl
theorem zl_mem {κ : zK} : ∀ (L : List (Option zV)) (i : Nat) (q : Nat × Value), q ∈ zl κ i L ↔ ∃ (k : Nat) (v : zV), L[k]? = some (some v) ∧ q = (i + k, zv κ v) := by
  intro L
  induction L with
  | nil => intro i q; simp [zl]
  | cons o L ih =>
    intro i q
    cases o with
    | none =>
      rw [show zl κ i (none :: L) = zl κ (i + 1) L from rfl, ih]
      constructor
      · rintro ⟨k, v, h1, h2⟩
        exact ⟨k + 1, v, by simpa using h1, by rw [h2, show i + 1 + k = i + (k + 1) from by omega]⟩
      · rintro ⟨k, v, h1, h2⟩
        cases k with
        | zero => simp at h1
        | succ k => exact ⟨k, v, by simpa using h1, by rw [h2, show i + 1 + k = i + (k + 1) from by omega]⟩
    | some w =>
      rw [show zl κ i (some w :: L) = (i, zv κ w) :: zl κ (i + 1) L from rfl, List.mem_cons, ih]
      constructor
      · rintro (h | ⟨k, v, h1, h2⟩)
        · exact ⟨0, w, by simp, h⟩
        · exact ⟨k + 1, v, by simpa using h1, by rw [h2, show i + 1 + k = i + (k + 1) from by omega]⟩
      · rintro ⟨k, v, h1, h2⟩
        cases k with
        | zero =>
          left
          have hv : w = v := by simpa using h1
          rw [h2, hv]
          rfl
        | succ k => right; exact ⟨k, v, by simpa using h1, by rw [h2, show i + 1 + k = i + (k + 1) from by omega]⟩
theorem zl_at {κ : zK} {ls : Array Slot} {n i : Nat} {L : List (Option zV)} {v : zV} (h : lv_has ls n (zl κ 0 L)) (hL : L[i]? = some (some v)) : ls[i]? = some (.val (zv κ v)) := by
  have h1 := h.2.2 (i, zv κ v) ((zl_mem L 0 _).mpr ⟨i, v, hL, by rw [Nat.zero_add]⟩)
  exact h1
theorem zl_weak {κ : zK} {ls : Array Slot} {n : Nat} {L L' : List (Option zV)} (h : lv_has ls n (zl κ 0 L)) (hL : ∀ (i : Nat) (v : zV), L'[i]? = some (some v) → L[i]? = some (some v)) : lv_has ls n (zl κ 0 L') := by
  refine ⟨h.1, h.2.1, fun q hq => ?_⟩
  obtain ⟨k, v, h1, h2⟩ := (zl_mem L' 0 q).mp hq
  exact h.2.2 q ((zl_mem L 0 q).mpr ⟨k, v, hL k v h1, h2⟩)
theorem zl_store {κ : zK} {ls : Array Slot} {n i : Nat} {L : List (Option zV)} {v : zV} (h : lv_has ls n ((i, zv κ v) :: (zl κ 0 L).filter (fun q => !(q.1 == i) && !(q.1 + 1 == i && q.2.category == 2)))) : lv_has ls n (zl κ 0 (L.set i (some v))) := by
  refine ⟨h.1, h.2.1, fun q hq => h.2.2 q ?_⟩
  obtain ⟨k, w, h1, h2⟩ := (zl_mem (L.set i (some v)) 0 q).mp hq
  rw [List.getElem?_set] at h1
  by_cases hk : i = k
  · subst hk
    rw [if_pos rfl] at h1
    split at h1
    · have hw : v = w := by simpa using h1
      rw [h2, Nat.zero_add, hw]
      exact List.mem_cons_self
    · cases h1
  · rw [if_neg hk] at h1
    refine List.mem_cons_of_mem _ (List.mem_filter.mpr ⟨(zl_mem L 0 q).mpr ⟨k, w, h1, h2⟩, ?_⟩)
    have hc : q.2.category = 1 := by rw [h2]; exact zcat κ w
    have hk2 : q.1 = k := by rw [h2]; exact Nat.zero_add k
    rw [hc, hk2]
    have hki : ¬ k = i := fun z => hk z.symm
    simp [hki]
theorem zsl (κ : zK) (A : List zV) : (lg_sl (A.map (zv κ))).length = A.length := by
  induction A with
  | nil => rfl
  | cons a A ih =>
    have e : lg_sl ((a :: A).map (zv κ)) = (if (zv κ a).category = 2 then [.val (zv κ a), .second] else [.val (zv κ a)]) ++ lg_sl (A.map (zv κ)) := rfl
    rw [e, if_neg (by rw [zcat]; decide), List.length_append, ih, List.length_cons, List.length_cons, List.length_nil]
    omega
theorem zargs {κ : zK} : ∀ (A : List zV) (n i : Nat) (q : Nat × Value), q ∈ zl κ i (A.map some ++ List.replicate n none) → q ∈ lv_args i (A.map (zv κ)) := by
  intro A
  induction A with
  | nil =>
    intro n i q h
    obtain ⟨k, v, h1, -⟩ := (zl_mem _ i q).mp h
    rw [show ([] : List zV).map some ++ List.replicate n (none : Option zV) = List.replicate n none from rfl, List.getElem?_replicate] at h1
    split at h1
    · cases h1
    · cases h1
  | cons a A ih =>
    intro n i q h
    have h' : q ∈ (i, zv κ a) :: zl κ (i + 1) (A.map some ++ List.replicate n none) := h
    show q ∈ (i, zv κ a) :: lv_args (if (zv κ a).category = 2 then i + 2 else i + 1) (A.map (zv κ))
    rw [if_neg (by rw [zcat]; decide)]
    rcases List.mem_cons.mp h' with h1 | h1
    · rw [h1]
      exact List.mem_cons_self
    · exact List.mem_cons_of_mem _ (ih n (i + 1) q h1)
end zLogic
