/-! reading: what a stream says, in pure words; the class's take over it -/
section zRead1
variable {κ : zK} {d : Nat} {Q : Option zV → zM → Prop}
/-- n bits at place P of a stream of N bits -/
def zrd (f : Nat → Int32) (N P n : Nat) : Option (Nat × Nat) := if P + n ≤ N then some (zval f P n, P + n) else none
theorem zrd_some {f : Nat → Int32} {N P n v P' : Nat} (h : zrd f N P n = some (v, P')) : v = zval f P n ∧ P' = P + n ∧ P + n ≤ N ∧ v < 2 ^ n := by
  unfold zrd at h
  split at h
  · cases h
    exact ⟨rfl, rfl, by assumption, zval_lt f n P⟩
  · cases h
/-- the class reads: place P, overrun or not -/
def zS (f : Nat → Int32) (sz P : Nat) (ov : Bool) (m : zM) : Prop := sz ≤ 200 ∧ P ≤ 8 * sz ∧ m 4 = f ∧ (∀ i, i < 200 → zB (f i)) ∧ m 3 1 = nI sz ∧ m 3 2 = nI P ∧ m 3 3 = nI ov.toNat
/-- how a take goes -/
def zTk (f : Nat → Int32) (N P n : Nat) (ov : Bool) (v P' : Nat) (ov' : Bool) : Prop := (ov = true → ov' = true) ∧ (ov = false → (zrd f N P n = some (v, P') ∧ ov' = false) ∨ (zrd f N P n = none ∧ ov' = true))
theorem zS_of {f : Nat → Int32} {sz P : Nat} {ov : Bool} {m m' : zM} (h : zS f sz P ov m) (h3 : m' 3 = m 3) (h4 : m' 4 = m 4) : zS f sz P ov m' := by
  unfold zS at h ⊢
  rw [h3, h4]
  exact h
theorem r_take {f : Nat → Int32} {sz P n : Nat} {ov : Bool} {m : zM} (hn : n ≤ 30) (h : zS f sz P ov m) (hQ : ∀ (v P' : Nat) (ov' : Bool) (m' : zM), v < 2 ^ n → zS f sz P' ov' m' → (∀ q, q ≠ 3 → m' q = m q) → zTk f (8 * sz) P n ov v P' ov' → Q (some (.inl (nI v))) m') : zR κ d Y_BitStream_take 0 [some (.inr 3), some (.inl (nI n)), none, none] [] m Q := by
  obtain ⟨hs, hP, e4, hB, e1, e2, e3⟩ := h
  refine s_take hn hs e2 hP e1 (by rw [e4]; exact hB) (fun q => ?_) (fun q w m' f1 f2 f3 f4 f5 => ?_)
  · rw [e4]
    refine hQ _ (P + n) ov _ (zval_lt f n P) ⟨hs, q, by rw [zms_ne (by decide)]; exact e4, hB, by rw [zms_nk (by decide)]; exact e1, zms_ss, by rw [zms_nk (by decide)]; exact e3⟩ (fun q hq => zms_ne hq) ⟨fun z => z, fun z => Or.inl ⟨if_pos q, z⟩⟩
  · exact hQ w (8 * sz) true m' f1 ⟨hs, Nat.le_refl _, by rw [f4 4 (by decide)]; exact e4, hB, by rw [f5 1 (by decide) (by decide)]; exact e1, f2, f3⟩ f4 ⟨fun _ => rfl, fun _ => Or.inr ⟨if_neg (by omega), rfl⟩⟩
/-- the reference reads -/
def zSM (f : Nat → Int32) (sz P : Nat) (br : Bool) (m : zM) : Prop := sz ≤ 200 ∧ P ≤ 8 * sz ∧ (∀ i, i < sz → m 70 i = f i) ∧ (∀ i, i < 200 → zB (f i)) ∧ m 68 2 = nI sz ∧ m 68 8 = nI P ∧ m 68 28 = nI br.toNat
theorem zSM_of {f : Nat → Int32} {sz P : Nat} {br : Bool} {m m' : zM} (h : zSM f sz P br m) (h70 : m' 70 = m 70) (h2 : m' 68 2 = m 68 2) (h8 : m' 68 8 = m 68 8) (h28 : m' 68 28 = m 68 28) : zSM f sz P br m' := by
  unfold zSM at h ⊢
  rw [h70, h2, h8, h28]
  exact h
theorem r_Mo_take {f : Nat → Int32} {sz P n : Nat} {br : Bool} {m : zM} (hn : n ≤ 30) (h : zSM f sz P br m) (hQ : ∀ (v P' : Nat) (br' : Bool) (m' : zM), v < 2 ^ n → zSM f sz P' br' m' → (∀ q, q ≠ 68 → m' q = m q) → (∀ i, i ≠ 8 → i ≠ 28 → m' 68 i = m 68 i) → zTk f (8 * sz) P n br v P' br' → Q (some (.inl (nI v))) m') : zR κ d Y_Mo_take 0 [some (.inr 68), some (.inl (nI n)), none, none] [] m Q := by
  obtain ⟨hs, hP, e4, hB, e1, e2, e3⟩ := h
  refine s_Mo_take hn hs e2 hP e1 (fun i hi => by rw [e4 i hi]; exact hB i (by omega)) (fun q => ?_) (fun q m' f2 f3 f4 f5 => ?_)
  · rw [zval_congr (f := m 70) (g := f) n P (fun j h1 h2 => e4 _ (by omega))]
    refine hQ _ (P + n) br _ (zval_lt f n P) ⟨hs, q, fun i hi => by rw [zms_ne (by decide)]; exact e4 i hi, hB, by rw [zms_nk (by decide)]; exact e1, zms_ss, by rw [zms_nk (by decide)]; exact e3⟩ (fun q hq => zms_ne hq) (fun i h1 _ => zms_nk h1) ⟨fun z => z, fun z => Or.inl ⟨if_pos q, z⟩⟩
  · have := hQ 0 (8 * sz) true m' (Nat.two_pow_pos n) ⟨hs, Nat.le_refl _, fun i hi => by rw [f4 70 (by decide)]; exact e4 i hi, hB, by rw [f5 2 (by decide) (by decide)]; exact e1, f2, f3⟩ f4 f5 ⟨fun _ => rfl, fun _ => Or.inr ⟨if_neg (by omega), rfl⟩⟩
    exact this
/-- a simple description, its symbols one by one; the listed (symbol, bits) come in the order of the stream -/
def zsb (kinds : Nat) (first : Bool) : Nat := if kinds = 3 then (if first then 1 else 2) else kinds / 2
def zrdSimple (f : Nat → Int32) (N S nb kinds : Nat) : Nat → Nat → List (Nat × Nat) → Option (List (Nat × Nat) × Nat)
  | 0, P, l => some (l, P)
  | r + 1, P, l => match zrd f N P nb with
    | none => none
    | some (s, P') => if S ≤ s ∨ s ∈ l.map Prod.fst then none else zrdSimple f N S nb kinds r P' (l ++ [(s, zsb kinds (decide (r + 1 = kinds)))])
/-- a description by the symbols' bits -/
def zrdFull (f : Nat → Int32) (N S : Nat) : Nat → Nat → Nat → Nat → List (Nat × Nat) → Option (List (Nat × Nat) × Nat)
  | 0, _, _, _, _ => none
  | u + 1, space, sym, P, l =>
    if S ≤ sym ∨ space = 0 then (if space = 0 then some (l, P) else none)
    else match zrd f N P 3 with
      | none => none
      | some (b, P1) =>
        if b = 7 then (match zrd f N P1 4 with
          | none => none
          | some (v, P2) => zrdFull f N S u space (sym + (v + 3)) P2 l)
        else if b = 0 then zrdFull f N S u space (sym + 1) P1 l
        else if space < 64 / 2 ^ b then none else zrdFull f N S u (space - 64 / 2 ^ b) (sym + 1) P1 (l ++ [(sym, b)])
def zrdCode (f : Nat → Int32) (N S nb P : Nat) : Option (List (Nat × Nat) × Nat) := match zrd f N P 1 with
  | none => none
  | some (v, P1) => if v = 1 then (match zrd f N P1 2 with
      | none => none
      | some (k, P2) => zrdSimple f N S nb (k + 1) (k + 1) P2 [])
    else zrdFull f N S (S + 1) 64 0 P1 []
/-- the class's code object holds the listed pairs, not yet sorted -/
def zRaw (c n : Nat) (m : zM) (l : List (Nat × Nat)) : Prop := zLst c n m (l.map Prod.fst) ∧ (l.map Prod.fst).Nodup ∧ ∀ p ∈ l, m (c + 3) p.1 = nI p.2 ∧ p.2 ≤ 6
theorem zLst_of {c n : Nat} {m m' : zM} {l : List Nat} (h0 : m' c = m c) (h1 : m' (c + 1) = m (c + 1)) (h3 : m' (c + 3) = m (c + 3)) (h : zLst c n m l) : zLst c n m' l := by
  unfold zLst at h ⊢
  rw [h0, h1, h3]
  exact h
theorem zRaw_of {c n : Nat} {m m' : zM} {l : List (Nat × Nat)} (h0 : m' c = m c) (h1 : m' (c + 1) = m (c + 1)) (h3 : m' (c + 3) = m (c + 3)) (h : zRaw c n m l) : zRaw c n m' l := by
  refine ⟨zLst_of h0 h1 h3 h.1, h.2.1, fun p hp => ?_⟩
  rw [h3]
  exact h.2.2 p hp
theorem zRaw_add {c n s b : Nat} {m m' : zM} {l : List (Nat × Nat)} (h : zRaw c n m l) (hs : s ∉ l.map Prod.fst) (hb : b ≤ 6) (hl : zLst c n m' (l.map Prod.fst ++ [s])) (e : m' (c + 3) s = nI b) (ho : ∀ t, t ≠ s → m' (c + 3) t = m (c + 3) t) : zRaw c n m' (l ++ [(s, b)]) := by
  refine ⟨by rw [List.map_append]; exact hl, ?_, fun p hp => ?_⟩
  · rw [List.map_append, List.nodup_append]
    refine ⟨h.2.1, by simp, fun a ha b hb => ?_⟩
    have : b = s := by simpa using hb
    rw [this]
    intro e2
    exact hs (by rw [← e2]; exact ha)
  · rcases List.mem_append.mp hp with z | z
    · have hne : p.1 ≠ s := fun e2 => hs (by rw [← e2]; exact List.mem_map_of_mem z)
      rw [ho p.1 hne]
      exact h.2.2 p z
    · rw [List.mem_singleton.mp z]
      exact ⟨e, hb⟩
theorem s_simpleBits {kinds : Nat} {x : Int32} {mem : zM} (hk : kinds ≤ 100) (hQ : Q (some (.inl (nI (zsb kinds (decide (¬ x = 0)))))) mem) : zR κ d Y_Code_simpleBits 0 [some (.inl (nI kinds)), some (.inl x)] [] mem Q := by
  refine w_Code_simpleBits_0 ⟨fun q => ?_, fun q => ⟨fun q2 => ?_, fun q2 => ?_⟩⟩
  · have h3 : ¬ kinds = 3 := fun e => q (by rw [e]; rfl)
    rw [zsb, if_neg h3] at hQ
    rw [pk_shrN (n := kinds) (by omega) 1 1 (by decide)]
    exact hQ
  · have h3 : kinds = 3 := (nI_eq (by omega) (by decide)).mp q
    rw [zsb, if_pos h3] at hQ
    simp only [q2] at hQ
    exact hQ
  · have h3 : kinds = 3 := (nI_eq (by omega) (by decide)).mp q
    rw [zsb, if_pos h3] at hQ
    simp only [q2] at hQ
    exact hQ
end zRead1
