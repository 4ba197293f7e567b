/-! a code made from counts, in pure numbers -/
section zCspec
variable {tm : Nat → Nat} {S : Nat}
def zlst (tm : Nat → Nat) (S : Nat) : List Nat := (List.range S).filter (fun s => decide (0 < tm s))
def zL0 (tm : Nat → Nat) (S : Nat) : List Nat := if (zlst tm S).length = 0 then [0] else zlst tm S
/-- the first of the symbols that came most often -/
def zfr (tm : Nat → Nat) : List Nat → Nat → Nat
  | [], f => f
  | a :: A, f => if tm f < tm a then zfr tm A a else zfr tm A f
def zfb (tot t : Nat) : Nat → Nat → Nat
  | 0, b => b
  | r + 1, b => if tot ≤ t * 2 ^ b then b else zfb tot t r (b + 1)
def zup (w : Nat → Nat) (s b : Nat) : Nat → Nat := fun x => if x = s then b else w x
/-- one round -/
def zrd1 : List Nat → (Nat → Nat) → Nat → (Nat → Nat) × Nat
  | [], w, sp => (w, sp)
  | s :: A, w, sp => if 1 < w s ∧ 64 / 2 ^ w s ≤ sp then zrd1 A (zup w s (w s - 1)) (sp - 64 / 2 ^ w s) else zrd1 A w sp
def zit (A : List Nat) : Nat → (Nat → Nat) → Nat → (Nat → Nat) × Nat
  | 0, w, sp => (w, sp)
  | t + 1, w, sp => if sp = 0 then (w, sp) else zit A t (zrd1 A w sp).1 (zrd1 A w sp).2
def ztot (tm : Nat → Nat) (A : List Nat) : Nat := (A.map tm).sum
def zw0 (tm : Nat → Nat) (A : List Nat) : Nat → Nat := fun s => if s ∈ A then zfb (ztot tm A) (tm s) 5 1 else 0
def zsp0 (tm : Nat → Nat) (A : List Nat) : Nat := 64 - (A.map (fun s => 64 / 2 ^ zw0 tm A s)).sum
def zcw (tm : Nat → Nat) (S : Nat) : Nat → Nat := if (zlst tm S).length ≤ 4 then (fun s => if s ∈ zL0 tm S then zsb (zL0 tm S).length (decide (s = zfr tm (zL0 tm S).tail ((zL0 tm S).headD 0))) else 0) else (zit (zlst tm S) 384 (zw0 tm (zlst tm S)) (zsp0 tm (zlst tm S))).1
def zSo (tm : Nat → Nat) (S : Nat) : List Nat := (zL0 tm S).foldr (zins (zrk (zcw tm S))) []
def zcv (tm : Nat → Nat) (S : Nat) (s : Nat) : Int32 := zwI (fun t => nI (zcw tm S t)) (zSo tm S) (zix (zSo tm S) s)
theorem zlst_mem {s : Nat} : s ∈ zlst tm S ↔ s < S ∧ 0 < tm s := by
  unfold zlst
  rw [List.mem_filter, List.mem_range, decide_eq_true_iff]
theorem zlst_nodup : (zlst tm S).Nodup := List.Pairwise.filter _ List.nodup_range
theorem zlst_succ : zlst tm (S + 1) = if 0 < tm S then zlst tm S ++ [S] else zlst tm S := by
  unfold zlst
  rw [List.range_succ, List.filter_append]
  by_cases h : 0 < tm S
  · rw [if_pos h]
    simp [h]
  · rw [if_neg h]
    simp [h]
theorem zL0_ne : zL0 tm S ≠ [] := by
  unfold zL0
  split
  · simp
  · rename_i h
    intro z
    rw [z] at h
    exact h rfl
theorem zL0_nodup : (zL0 tm S).Nodup := by
  unfold zL0
  split
  · simp
  · exact zlst_nodup
theorem zL0_lt (hS : 0 < S) {s : Nat} (h : s ∈ zL0 tm S) : s < S := by
  unfold zL0 at h
  split at h
  · rw [List.mem_singleton] at h
    omega
  · exact (zlst_mem.mp h).1
theorem zfb_in (tot t : Nat) : ∀ (r b : Nat), b ≤ zfb tot t r b ∧ zfb tot t r b ≤ b + r := by
  intro r
  induction r with
  | zero => intro b; exact ⟨Nat.le_refl _, Nat.le_refl _⟩
  | succ r ih =>
    intro b
    unfold zfb
    split
    · omega
    · have := ih (b + 1)
      omega
theorem zfb_ok {tot t : Nat} (h : tot ≤ t * 2 ^ 6) : ∀ (r b : Nat), b + r = 6 → tot ≤ t * 2 ^ zfb tot t r b := by
  intro r
  induction r with
  | zero =>
    intro b hb
    have e : b = 6 := by omega
    subst e
    exact h
  | succ r ih =>
    intro b hb
    unfold zfb
    split
    · assumption
    · exact ih (b + 1) (by omega)
theorem zw0_in {A : List Nat} {s : Nat} : zw0 tm A s ≤ 6 ∧ (s ∈ A → 1 ≤ zw0 tm A s) ∧ (s ∉ A → zw0 tm A s = 0) := by
  have := zfb_in (ztot tm A) (tm s) 5 1
  unfold zw0
  refine ⟨?_, fun h => ?_, fun h => if_neg h⟩
  · split <;> omega
  · rw [if_pos h]
    omega
theorem ztot_pos {A : List Nat} (h : ∀ s ∈ A, 0 < tm s) : A.length ≤ ztot tm A := by
  unfold ztot
  induction A with
  | nil => exact Nat.le_refl _
  | cons a A ih =>
    rw [List.map_cons, List.sum_cons, List.length_cons]
    have := h a List.mem_cons_self
    have := ih (fun s hs => h s (List.mem_cons_of_mem _ hs))
    omega
/-- the words have room -/
theorem zkraft {A : List Nat} (hp : ∀ s ∈ A, 0 < tm s) (ht : ztot tm A ≤ 64) : (A.map (fun s => 64 / 2 ^ zw0 tm A s)).sum ≤ 64 := by
  have key : ∀ B : List Nat, (∀ s ∈ B, s ∈ A) → (B.map (fun s => 64 / 2 ^ zw0 tm A s)).sum * ztot tm A ≤ 64 * (B.map tm).sum := by
    intro B
    induction B with
    | nil => intro _; simp
    | cons a B ih =>
      intro hB
      have ha := hB a List.mem_cons_self
      have h1 := ih (fun s hs => hB s (List.mem_cons_of_mem _ hs))
      rw [List.map_cons, List.sum_cons, List.map_cons, List.sum_cons, Nat.add_mul, Nat.mul_add]
      have hw : zw0 tm A a = zfb (ztot tm A) (tm a) 5 1 := if_pos ha
      have hok : ztot tm A ≤ tm a * 2 ^ zw0 tm A a := by
        rw [hw]
        refine zfb_ok ?_ 5 1 rfl
        have := hp a ha
        omega
      have h64 : 64 / 2 ^ zw0 tm A a * 2 ^ zw0 tm A a = 64 := by
        have : ∀ b : Fin 7, 64 / 2 ^ b.val * 2 ^ b.val = 64 := by decide
        have h6 := (zw0_in (tm := tm) (A := A) (s := a)).1
        exact this ⟨zw0 tm A a, by omega⟩
      have h2 : 64 / 2 ^ zw0 tm A a * ztot tm A ≤ 64 * tm a := by
        calc 64 / 2 ^ zw0 tm A a * ztot tm A ≤ 64 / 2 ^ zw0 tm A a * (tm a * 2 ^ zw0 tm A a) := Nat.mul_le_mul_left _ hok
          _ = 64 / 2 ^ zw0 tm A a * 2 ^ zw0 tm A a * tm a := by rw [Nat.mul_comm (tm a), Nat.mul_assoc]
          _ = 64 * tm a := by rw [h64]
      omega
  have h := key A (fun s hs => hs)
  have h2 := ztot_pos hp
  rcases Nat.eq_zero_or_pos A.length with hz | hz
  · have e : A = [] := List.length_eq_zero_iff.mp hz
    subst e
    simp
  · have h3 : (A.map (fun s => 64 / 2 ^ zw0 tm A s)).sum * ztot tm A ≤ 64 * ztot tm A := h
    exact Nat.le_of_mul_le_mul_right h3 (by omega)
theorem zrd1_sp : ∀ (A : List Nat) (w : Nat → Nat) (sp : Nat), (∀ s, w s ≤ 6) → (zrd1 A w sp).2 ≤ sp ∧ ((zrd1 A w sp).2 = sp → (zrd1 A w sp).1 = w) ∧ ∀ s, (zrd1 A w sp).1 s ≤ w s ∧ (1 ≤ w s → 1 ≤ (zrd1 A w sp).1 s) := by
  intro A
  induction A with
  | nil => intro w sp _; exact ⟨Nat.le_refl _, fun _ => rfl, fun s => ⟨Nat.le_refl _, fun h => h⟩⟩
  | cons a A ih =>
    intro w sp hw
    unfold zrd1
    split
    · rename_i hc
      have hpos : 1 ≤ 64 / 2 ^ w a := by
        have : ∀ b : Fin 7, 1 ≤ 64 / 2 ^ b.val := by decide
        exact this ⟨w a, by have := hw a; omega⟩
      have hw' : ∀ s, zup w a (w a - 1) s ≤ w s := by
        intro s
        unfold zup
        split
        · rename_i e
          subst e
          omega
        · exact Nat.le_refl _
      obtain ⟨i1, i2, i3⟩ := ih (zup w a (w a - 1)) (sp - 64 / 2 ^ w a) (fun s => Nat.le_trans (hw' s) (hw s))
      refine ⟨by omega, fun h => by omega, fun s => ⟨Nat.le_trans (i3 s).1 (hw' s), fun h => (i3 s).2 ?_⟩⟩
      unfold zup
      split
      · omega
      · exact h
    · exact ih w sp hw
theorem zit_in (A : List Nat) : ∀ (t : Nat) (w : Nat → Nat) (sp : Nat), (∀ s, w s ≤ 6) → (∀ s, (zit A t w sp).1 s ≤ w s ∧ (1 ≤ w s → 1 ≤ (zit A t w sp).1 s)) := by
  intro t
  induction t with
  | zero => intro w sp _ s; exact ⟨Nat.le_refl _, fun h => h⟩
  | succ t ih =>
    intro w sp hw s
    unfold zit
    split
    · exact ⟨Nat.le_refl _, fun h => h⟩
    · obtain ⟨i1, i2, i3⟩ := zrd1_sp A w sp hw
      have := ih (zrd1 A w sp).1 (zrd1 A w sp).2 (fun s => Nat.le_trans (i3 s).1 (hw s)) s
      exact ⟨Nat.le_trans this.1 (i3 s).1, fun h => this.2 ((i3 s).2 h)⟩
theorem zit_fix (A : List Nat) {w : Nat → Nat} {sp : Nat} (h : zrd1 A w sp = (w, sp)) : ∀ t, zit A t w sp = (w, sp) := by
  intro t
  induction t with
  | zero => rfl
  | succ t ih =>
    unfold zit
    split
    · rfl
    · rw [h]
      exact ih
theorem zit_step (A : List Nat) : ∀ (t : Nat) (w : Nat → Nat) (sp : Nat), (∀ s, w s ≤ 6) → sp ≤ t → zit A t w sp = zit A (t + 1) w sp := by
  intro t
  induction t with
  | zero =>
    intro w sp _ h
    have e : sp = 0 := by omega
    subst e
    rfl
  | succ t ih =>
    intro w sp hw h
    obtain ⟨i1, i2, i3⟩ := zrd1_sp A w sp hw
    by_cases h0 : sp = 0
    · subst h0
      rfl
    by_cases he : (zrd1 A w sp).2 = sp
    · have hf : zrd1 A w sp = (w, sp) := Prod.ext (i2 he) he
      rw [zit_fix A hf, zit_fix A hf]
    · have e1 : zit A (t + 1) w sp = zit A t (zrd1 A w sp).1 (zrd1 A w sp).2 := by
        rw [zit, if_neg h0]
      have e2 : zit A (t + 1 + 1) w sp = zit A (t + 1) (zrd1 A w sp).1 (zrd1 A w sp).2 := by
        rw [zit, if_neg h0]
      rw [e1, e2]
      exact ih _ _ (fun s => Nat.le_trans (i3 s).1 (hw s)) (by omega)
theorem zit_400 {A : List Nat} {w : Nat → Nat} {sp : Nat} (hw : ∀ s, w s ≤ 6) (h : sp ≤ 64) : zit A 400 w sp = zit A 384 w sp := by
  have key : ∀ n, zit A (384 + n) w sp = zit A 384 w sp := by
    intro n
    induction n with
    | zero => rfl
    | succ n ih =>
      rw [show 384 + (n + 1) = 384 + n + 1 by omega, ← zit_step A (384 + n) w sp hw (by omega)]
      exact ih
  exact key 16
theorem zcw_in {s : Nat} : zcw tm S s ≤ 6 ∧ (s ∉ zL0 tm S → zcw tm S s = 0) ∧ (4 < (zlst tm S).length → s ∈ zL0 tm S → 1 ≤ zcw tm S s) := by
  unfold zcw
  split
  · rename_i h
    have hl : (zL0 tm S).length ≤ 4 := by
      unfold zL0
      split
      · decide
      · exact h
    refine ⟨?_, fun z => if_neg z, fun z => by omega⟩
    show (if s ∈ zL0 tm S then zsb (zL0 tm S).length (decide (s = zfr tm (zL0 tm S).tail ((zL0 tm S).headD 0))) else 0) ≤ 6
    split
    · have key : ∀ n : Fin 5, ∀ b : Bool, zsb n.val b ≤ 6 := by decide
      exact key ⟨_, by omega⟩ _
    · exact Nat.zero_le _
  · rename_i h
    have e : zL0 tm S = zlst tm S := if_neg (by omega)
    have hw : ∀ s, zw0 tm (zlst tm S) s ≤ 6 := fun s => zw0_in.1
    have hi := zit_in (zlst tm S) 384 (zw0 tm (zlst tm S)) (zsp0 tm (zlst tm S)) hw s
    rw [e]
    refine ⟨Nat.le_trans hi.1 (hw s), fun z => ?_, fun _ z => hi.2 (zw0_in.2.1 z)⟩
    have := (zw0_in (tm := tm) (A := zlst tm S) (s := s)).2.2 z
    omega
theorem zSo_perm : (zSo tm S).Perm (zL0 tm S) := zfold_perm _ _
theorem zSo_pair (hS : S ≤ 256) (hS0 : 0 < S) : (zSo tm S).Pairwise (fun a b => zrk (zcw tm S) a < zrk (zcw tm S) b) := zfold_pair _ _ zL0_nodup (fun _ ha _ hb e => zrk_inj (Nat.lt_of_lt_of_le (zL0_lt hS0 ha) hS) (Nat.lt_of_lt_of_le (zL0_lt hS0 hb) hS) e)
end zCspec
