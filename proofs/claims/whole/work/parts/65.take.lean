/-! bits in: the class's take, the reference's take -/
section zTake
variable {κ : zK} {d : Nat} {Q : Option zV → zM → Prop}
theorem zms_self {mem : zM} {p k : Nat} {v : Int32} (h : mem p k = v) : zms mem p k v = mem := by
  funext q j
  by_cases hq : q = p
  · subst hq
    by_cases hj : j = k
    · subst hj
      rw [zms_ss, h]
    · rw [zms_nk hj]
  · rw [zms_ne hq]
theorem nx_or (a b : Nat) : nI a ||| nI b = nI (a ||| b) := by
  apply Int32.toBitVec_inj.1
  show BitVec.ofNat 32 a ||| BitVec.ofNat 32 b = BitVec.ofNat 32 (a ||| b)
  apply BitVec.eq_of_getLsbD_eq
  intro i hi
  simp [hi]
/-- bit j of a row of bytes; r bits from place P on, the first one lowest -/
def zrb (f : Nat → Int32) (j : Nat) : Bool := (f (j / 8)).toNatClampNeg.testBit (j % 8)
def zval (f : Nat → Int32) (P : Nat) : Nat → Nat
  | 0 => 0
  | r + 1 => (zrb f P).toNat + 2 * zval f (P + 1) r
theorem zval_lt (f : Nat → Int32) : ∀ (r P : Nat), zval f P r < 2 ^ r := by
  intro r
  induction r with
  | zero => intro P; exact Nat.one_pos
  | succ r ih =>
    intro P
    have h := ih (P + 1)
    have hb : (zrb f P).toNat ≤ 1 := by cases zrb f P <;> decide
    rw [zval, Nat.pow_succ]
    omega
theorem zval_congr {f g : Nat → Int32} : ∀ (r P : Nat), (∀ j, P ≤ j → j < P + r → f (j / 8) = g (j / 8)) → zval f P r = zval g P r := by
  intro r
  induction r with
  | zero => intro P _; rfl
  | succ r ih =>
    intro P h
    rw [zval, zval, ih (P + 1) (fun j h1 h2 => h j (by omega) (by omega))]
    unfold zrb
    rw [h P (Nat.le_refl _) (by omega)]
/-- the bit as the class reads it -/
theorem zget_bit {f : Nat → Int32} {P : Nat} (hP : P < 2 ^ 31) {b : Nat} (hb : b < 256) (eb : f (P / 8) = nI b) : (nI b >>> (nI (P % 8) &&& 31)) &&& 1 = nI (zrb f P).toNat := by
  rw [pk_shrN (by omega) (nI (P % 8) &&& 31) (P % 8) (zs_l (P % 8) (by omega)), pk_andN (m := 1) (by have := Nat.div_le_self b (2 ^ (P % 8)); omega) 1 (by decide)]
  unfold zrb
  rw [eb, nI_clamp (by omega), Nat.testBit_eq_decide_div_mod_eq]
  congr 1
  rcases Nat.mod_two_eq_zero_or_one (b / 2 ^ (P % 8)) with z | z <;> simp [z]
theorem zshl_bit (x : Bool) {k : Nat} (hk : k ≤ 30) : nI x.toNat <<< (nI k &&& 31) = nI (x.toNat * 2 ^ k) := by
  refine pk_shlN (nI k &&& 31) k (zs_l k (by omega)) ?_
  have h1 : x.toNat ≤ 1 := by cases x <;> decide
  have h2 : (2 : Nat) ^ k ≤ 2 ^ 30 := Nat.pow_le_pow_right (by decide) hk
  have h3 := Nat.mul_le_mul h1 h2
  omega
theorem zor_add {v k : Nat} (hv : v < 2 ^ k) (x : Bool) : v ||| (x.toNat * 2 ^ k) = v + x.toNat * 2 ^ k := by
  rw [Nat.or_comm, Nat.mul_comm, ← Nat.two_pow_add_eq_or_of_lt hv, Nat.add_comm]
theorem s_take_loop {n sz : Nat} (hn : n ≤ 30) (hs : sz ≤ 200) : ∀ (r k : Nat) (mem : zM) (P v : Nat), k + r = n → mem 3 2 = nI P → P ≤ 8 * sz → mem 3 1 = nI sz → (∀ i, i < 200 → zB (mem 4 i)) → v < 2 ^ k →
    (P + r ≤ 8 * sz → Q (some (.inl (nI (v + zval (mem 4) P r * 2 ^ k)))) (zms mem 3 2 (nI (P + r)))) →
    (8 * sz < P + r → ∀ (w : Nat) (m' : zM), w < 2 ^ n → m' 3 2 = nI (8 * sz) → m' 3 3 = 1 → (∀ q, q ≠ 3 → m' q = mem q) → (∀ i, i ≠ 2 → i ≠ 3 → m' 3 i = mem 3 i) → Q (some (.inl (nI w))) m') →
    zR κ d Y_BitStream_take 4 [some (.inr 3), some (.inl (nI n)), some (.inl (nI v)), some (.inl (nI k))] [] mem Q := by
  intro r
  induction r with
  | zero =>
    intro k mem P v hk e2 hP e1 hB hv h1 h2
    refine w_BitStream_take_4 ⟨fun _ => ?_, fun q => absurd (nI_le (by omega) (by omega)) q⟩
    have := h1 (by omega)
    rw [zms_self (by rw [e2]; rfl)] at this
    simpa [zval] using this
  | succ r ih =>
    intro k mem P v hk e2 hP e1 hB hv h1 h2
    have e8 : (8 : Int32) * mem 3 1 = nI (8 * sz) := by rw [e1, show (8 : Int32) = nI 8 from rfl, pk_mul]
    refine w_BitStream_take_4 ⟨fun q => absurd q (nI_ge (by omega) (by omega)), fun _ => ⟨fun q => ?_, fun q => ?_⟩⟩
    · have hlt : P < 8 * sz := by
        rw [e2, e8] at q
        exact (nI_ltI (by omega) (by omega)).mp q
      have hsh : (mem 3 2) >>> (3 : Int32) = nI (P / 8) := by rw [e2]; exact pk_shrN (by omega) 3 3 (by decide)
      have hand : (mem 3 2) &&& 7 = nI (P % 8) := by rw [e2]; exact pk_andN (by omega) 3 (by decide)
      obtain ⟨b, hb, eb⟩ := hB (P / 8) (by omega)
      obtain ⟨a1, a2, a3⟩ := zadd_bit hv (zrb (mem 4) P)
      refine ⟨by rw [hsh]; exact vp_in_nI (by omega) (by decide), ?_⟩
      rw [hsh, hand, nI_clamp (by omega), eb, zget_bit (by omega) hb eb, zshl_bit _ (by omega), nx_or, zor_add hv, e2, nI_1, nI_1]
      refine ih (k + 1) _ (P + 1) (v + (zrb (mem 4) P).toNat * 2 ^ k) (by omega) zms_ss (by omega) (by rw [zms_nk (by decide)]; exact e1) (fun i hi => by rw [zms_ne (by decide)]; exact hB i hi) a1 (fun q1 => ?_) (fun q1 w m' f1 f2 f3 f4 f5 => ?_)
      · have := h1 (by omega)
        rw [zms_zms, zms_ne (show (4 : Nat) ≠ 3 by decide)]
        rw [show P + 1 + r = P + (r + 1) by omega]
        rw [zval] at this
        rw [show v + (zrb (mem 4) P).toNat * 2 ^ k + zval (mem 4) (P + 1) r * 2 ^ (k + 1) = v + ((zrb (mem 4) P).toNat + 2 * zval (mem 4) (P + 1) r) * 2 ^ k by rw [Nat.add_mul, Nat.pow_succ, Nat.mul_comm 2 (zval (mem 4) (P + 1) r), Nat.mul_assoc, Nat.mul_comm 2 (2 ^ k), Nat.add_assoc]]
        exact this
      · exact h2 (by omega) w m' f1 f2 f3 (fun q hq => by rw [f4 q hq, zms_ne hq]) (fun i h3 h4 => by rw [f5 i h3 h4, zms_nk h3])
    · have hge : P = 8 * sz := by
        rw [e2, e8] at q
        rcases Nat.lt_or_ge P (8 * sz) with z | z
        · exact absurd (nI_lt z (by omega)) q
        · omega
      have hv2 : v < 2 ^ n := Nat.lt_of_lt_of_le hv (Nat.pow_le_pow_right (by decide) (by omega))
      rw [nI_1]
      refine ih (k + 1) _ P v (by omega) (by rw [zms_nk (by decide)]; exact e2) hP (by rw [zms_nk (by decide)]; exact e1) (fun i hi => by rw [zms_ne (by decide)]; exact hB i hi) (Nat.lt_of_lt_of_le hv (Nat.pow_le_pow_right (by decide) (by omega))) (fun q1 => ?_) (fun q1 w m' f1 f2 f3 f4 f5 => ?_)
      · have hr0 : r = 0 := by omega
        subst hr0
        have := h2 (by omega) v (zms (zms mem 3 3 1) 3 2 (nI (P + 0))) hv2 (by rw [zms_ss, Nat.add_zero, hge]) (by rw [zms_nk (by decide), zms_ss]) (fun q hq => by rw [zms_ne hq, zms_ne hq]) (fun i h3 h4 => by rw [zms_nk h3, zms_nk h4])
        simpa [zval] using this
      · exact h2 (by omega) w m' f1 f2 f3 (fun q hq => by rw [f4 q hq, zms_ne hq]) (fun i h3 h4 => by rw [f5 i h3 h4, zms_nk h4])
theorem s_take {n sz P : Nat} {mem : zM} (hn : n ≤ 30) (hs : sz ≤ 200) (e2 : mem 3 2 = nI P) (hP : P ≤ 8 * sz) (e1 : mem 3 1 = nI sz) (hB : ∀ i, i < 200 → zB (mem 4 i))
    (h1 : P + n ≤ 8 * sz → Q (some (.inl (nI (zval (mem 4) P n)))) (zms mem 3 2 (nI (P + n))))
    (h2 : 8 * sz < P + n → ∀ (w : Nat) (m' : zM), w < 2 ^ n → m' 3 2 = nI (8 * sz) → m' 3 3 = 1 → (∀ q, q ≠ 3 → m' q = mem q) → (∀ i, i ≠ 2 → i ≠ 3 → m' 3 i = mem 3 i) → Q (some (.inl (nI w))) m') :
    zR κ d Y_BitStream_take 0 [some (.inr 3), some (.inl (nI n)), none, none] [] mem Q := by
  refine w_BitStream_take_0 (s_take_loop hn hs n 0 mem P 0 (by omega) e2 hP e1 hB (by decide) (fun q => ?_) h2)
  have := h1 q
  simpa using this
theorem s_Mo_take_loop {n sz : Nat} (hn : n ≤ 30) (hs : sz ≤ 200) : ∀ (r k : Nat) (mem : zM) (P v : Nat), k + r = n → mem 68 8 = nI P → P ≤ 8 * sz → mem 68 2 = nI sz → (∀ i, i < sz → zB (mem 70 i)) → v < 2 ^ k →
    (P + r ≤ 8 * sz → Q (some (.inl (nI (v + zval (mem 70) P r * 2 ^ k)))) (zms mem 68 8 (nI (P + r)))) →
    (8 * sz < P + r → ∀ m' : zM, m' 68 8 = nI (8 * sz) → m' 68 28 = 1 → (∀ q, q ≠ 68 → m' q = mem q) → (∀ i, i ≠ 8 → i ≠ 28 → m' 68 i = mem 68 i) → Q (some (.inl 0)) m') →
    zR κ d Y_Mo_take 4 [some (.inr 68), some (.inl (nI n)), some (.inl (nI v)), some (.inl (nI k))] [] mem Q := by
  intro r
  induction r with
  | zero =>
    intro k mem P v hk e2 hP e1 hB hv h1 h2
    refine w_Mo_take_4 ⟨fun _ => ?_, fun q => absurd (nI_le (by omega) (by omega)) q⟩
    have := h1 (by omega)
    rw [zms_self (by rw [e2]; rfl)] at this
    simpa [zval] using this
  | succ r ih =>
    intro k mem P v hk e2 hP e1 hB hv h1 h2
    have e8 : (8 : Int32) * mem 68 2 = nI (8 * sz) := by rw [e1, show (8 : Int32) = nI 8 from rfl, pk_mul]
    refine w_Mo_take_4 ⟨fun q => absurd q (nI_ge (by omega) (by omega)), fun _ => ⟨fun q => ?_, fun q => ?_⟩⟩
    · have hlt : P < 8 * sz := by
        rw [e2, e8] at q
        exact (nI_ltI (by omega) (by omega)).mp q
      have hsh : (mem 68 8) / 8 = nI (P / 8) := by rw [e2]; exact pk_div (by omega) (by decide) (by decide)
      have hand : (mem 68 8) - (mem 68 8) / 8 * 8 = nI (P % 8) := by rw [e2]; exact pk_rem (by omega) (by decide) (by decide)
      obtain ⟨b, hb, eb⟩ := hB (P / 8) (by omega)
      obtain ⟨a1, a2, a3⟩ := zadd_bit hv (zrb (mem 70) P)
      refine ⟨by rw [hsh]; exact vp_in_nI (by omega) (by decide), ?_⟩
      rw [hand, hsh, nI_clamp (by omega), eb, zget_bit (by omega) hb eb, zshl_bit _ (by omega), nI_add, e2, nI_1, nI_1]
      refine ih (k + 1) _ (P + 1) (v + (zrb (mem 70) P).toNat * 2 ^ k) (by omega) zms_ss (by omega) (by rw [zms_nk (by decide)]; exact e1) (fun i hi => by rw [zms_ne (by decide)]; exact hB i hi) a1 (fun q1 => ?_) (fun q1 m' f2 f3 f4 f5 => ?_)
      · have := h1 (by omega)
        rw [zms_zms, zms_ne (show (70 : Nat) ≠ 68 by decide)]
        rw [show P + 1 + r = P + (r + 1) by omega]
        rw [zval] at this
        rw [show v + (zrb (mem 70) P).toNat * 2 ^ k + zval (mem 70) (P + 1) r * 2 ^ (k + 1) = v + ((zrb (mem 70) P).toNat + 2 * zval (mem 70) (P + 1) r) * 2 ^ k by rw [Nat.add_mul, Nat.pow_succ, Nat.mul_comm 2 (zval (mem 70) (P + 1) r), Nat.mul_assoc, Nat.mul_comm 2 (2 ^ k), Nat.add_assoc]]
        exact this
      · exact h2 (by omega) m' f2 f3 (fun q hq => by rw [f4 q hq, zms_ne hq]) (fun i h3 h4 => by rw [f5 i h3 h4, zms_nk h3])
    · have hge : P = 8 * sz := by
        rw [e2, e8] at q
        rcases Nat.lt_or_ge P (8 * sz) with z | z
        · exact absurd (nI_lt z (by omega)) q
        · omega
      exact h2 (by omega) _ (by rw [zms_nk (by decide), e2, hge]) zms_ss (fun q hq => zms_ne hq) (fun i h3 h4 => zms_nk h4)
theorem s_Mo_take {n sz P : Nat} {mem : zM} (hn : n ≤ 30) (hs : sz ≤ 200) (e2 : mem 68 8 = nI P) (hP : P ≤ 8 * sz) (e1 : mem 68 2 = nI sz) (hB : ∀ i, i < sz → zB (mem 70 i))
    (h1 : P + n ≤ 8 * sz → Q (some (.inl (nI (zval (mem 70) P n)))) (zms mem 68 8 (nI (P + n))))
    (h2 : 8 * sz < P + n → ∀ m' : zM, m' 68 8 = nI (8 * sz) → m' 68 28 = 1 → (∀ q, q ≠ 68 → m' q = mem q) → (∀ i, i ≠ 8 → i ≠ 28 → m' 68 i = mem 68 i) → Q (some (.inl 0)) m') :
    zR κ d Y_Mo_take 0 [some (.inr 68), some (.inl (nI n)), none, none] [] mem Q := by
  refine w_Mo_take_0 (s_Mo_take_loop hn hs n 0 mem P 0 (by omega) e2 hP e1 hB (by decide) (fun q => ?_) h2)
  have := h1 q
  simpa using this
end zTake
