/-! what a block of the text becomes, in pure numbers: copies, words, commands -/
section zPspec
def zeq (T : List Nat) (q d : Nat) : Nat → Nat → Nat
  | 0, n => n
  | r + 1, n => if T.getD (q + n - d) 0 = T.getD (q + n) 0 then zeq T q d r (n + 1) else n
theorem zeq_le {T : List Nat} {q d : Nat} : ∀ (r n : Nat), n ≤ zeq T q d r n ∧ zeq T q d r n ≤ n + r := by
  intro r
  induction r with
  | zero => intro n; exact ⟨Nat.le_refl _, Nat.le_refl _⟩
  | succ r ih =>
    intro n
    unfold zeq
    split
    · have := ih (n + 1)
      omega
    · omega
def zmat (T : List Nat) (q most : Nat) : Nat → Nat → Nat → Nat → Nat × Nat
  | 0, _, b, nr => (b, nr)
  | r + 1, d, b, nr => if b < zeq T q d most 0 then zmat T q most r (d + 1) (zeq T q d most 0) d else zmat T q most r (d + 1) b nr
theorem zmat_full {T : List Nat} {q most : Nat} : ∀ (r d b nr : Nat), most ≤ b → zmat T q most r d b nr = (b, nr) := by
  intro r
  induction r with
  | zero => intro d b nr _; rfl
  | succ r ih =>
    intro d b nr h
    have := (zeq_le (T := T) (q := q) (d := d) most 0).2
    unfold zmat
    rw [if_neg (by omega)]
    exact ih (d + 1) b nr h
theorem zmat_in {T : List Nat} {q most : Nat} : ∀ (r d b nr : Nat), b ≤ most → (0 < b → 1 ≤ nr ∧ nr ≤ q) → 1 ≤ d → d + r ≤ q + 1 → (zmat T q most r d b nr).1 ≤ most ∧ (0 < (zmat T q most r d b nr).1 → 1 ≤ (zmat T q most r d b nr).2 ∧ (zmat T q most r d b nr).2 ≤ q) := by
  intro r
  induction r with
  | zero => intro d b nr h1 h2 _ _; exact ⟨h1, h2⟩
  | succ r ih =>
    intro d b nr h1 h2 h3 h4
    have := (zeq_le (T := T) (q := q) (d := d) most 0).2
    unfold zmat
    split
    · exact ih (d + 1) _ d (by omega) (fun _ => by omega) (by omega) (by omega)
    · exact ih (d + 1) b nr h1 h2 (by omega) (by omega)
def zcpy (T : List Nat) (q e : Nat) : Nat × Nat := zmat T q (min 57 (e - q)) q 1 0 0
theorem zcpy_in {T : List Nat} {q e : Nat} : (zcpy T q e).1 ≤ min 57 (e - q) ∧ (0 < (zcpy T q e).1 → 1 ≤ (zcpy T q e).2 ∧ (zcpy T q e).2 ≤ q) := zmat_in q 1 0 0 (Nat.zero_le _) (fun h => absurd h (Nat.lt_irrefl 0)) (Nat.le_refl 1) (by omega)
def zst (T : List Nat) (q m x : Nat) : Nat → Nat → Bool
  | 0, _ => true
  | r + 1, k => if nI (T.getD (q + k) 0) = zby m x k then zst T q m x r (k + 1) else false
def zsk (T : List Nat) (q e : Nat) : Nat → Nat → Nat × Nat × Nat → Nat × Nat × Nat
  | 0, _, w => w
  | r + 1, j, w => if w.1 < zyo (4 + j / 16) (j % 16) ∧ q + zyo (4 + j / 16) (j % 16) ≤ e ∧ zst T q (4 + j / 16) (j % 16) (zyo (4 + j / 16) (j % 16)) 0 = true then zsk T q e r (j + 1) (zyo (4 + j / 16) (j % 16), 4 + j / 16, j % 16) else zsk T q e r (j + 1) w
def zWok (q e : Nat) (w : Nat × Nat × Nat) : Prop := 0 < w.1 → q + w.1 ≤ e ∧ w.1 ≤ 6 ∧ (w.2.1 = 4 ∨ w.2.1 = 5) ∧ w.2.2 < 16
theorem zsk_in {T : List Nat} {q e : Nat} : ∀ (r j : Nat) (w : Nat × Nat × Nat), j + r ≤ 32 → zWok q e w → zWok q e (zsk T q e r j w) := by
  intro r
  induction r with
  | zero => intro j w _ h; exact h
  | succ r ih =>
    intro j w hj h
    unfold zsk
    split
    · rename_i hc
      refine ih (j + 1) _ (by omega) (fun _ => ⟨hc.2.1, ?_, ?_, ?_⟩)
      · exact Nat.le_trans zyo_le (by omega)
      · show 4 + j / 16 = 4 ∨ 4 + j / 16 = 5
        omega
      · show j % 16 < 16
        omega
    · exact ih (j + 1) w (by omega) h
def zwrd (T : List Nat) (q e : Nat) : Nat × Nat × Nat := zsk T q e 32 0 (0, 0, 0)
theorem zwrd_in {T : List Nat} {q e : Nat} : zWok q e (zwrd T q e) := zsk_in 32 0 _ (by decide) (fun h => absurd h (Nat.lt_irrefl 0))
/-- the plain symbol of a distance, from below and from above -/
def zpsu (d : Nat) : Nat → Nat → Nat
  | 0, s => s
  | r + 1, s => if zDB.getD (s + 1) 0 ≤ d then zpsu d r (s + 1) else s
def zps (d : Nat) : Nat := zpsu d 7 6
def zpsd (d : Nat) : Nat → Nat → Nat
  | 0, s => s
  | r + 1, s => if zDB.getD s 0 ≤ d then s else zpsd d r (s - 1)
theorem zps_eq : ∀ d : Fin 140, 1 ≤ d.val → zpsd d.val 7 13 = zps d.val ∧ 6 ≤ zps d.val ∧ zps d.val < 14 ∧ zDB.getD (zps d.val) 0 ≤ d.val := by decide +kernel
def zcsu (m : Nat) : Nat → Nat → Nat
  | 0, c => c
  | r + 1, c => if zCB.getD (c + 1) 0 ≤ m then zcsu m r (c + 1) else c
def zcs (m : Nat) : Nat := zcsu m 6 0
theorem zcs_eq : ∀ m : Fin 100, 2 ≤ m.val → zcs m.val = (if m.val ≤ 5 then m.val - 2 else if m.val < 10 then 4 else if m.val < 26 then 5 else 6) ∧ zcs m.val < 7 := by decide +kernel
def zisu (n : Nat) : Nat → Nat → Nat
  | 0, i => i
  | r + 1, i => if zIB.getD (i + 1) 0 ≤ n then zisu n r (i + 1) else i
def zis (n : Nat) : Nat := zisu n 3 0
theorem zis_eq : ∀ n : Fin 100, zis n.val = (if n.val < 2 then n.val else if n.val < 6 then 2 else 3) ∧ zis n.val < 4 ∧ zIB.getD (zis n.val) 0 ≤ n.val := by decide +kernel
def zrsy (r : zRg) (d : Nat) : Nat := if r.1 = d then 0 else if r.2.1 = d then 1 else if r.2.2.1 = d then 2 else if r.2.2.2 = d then 3 else if r.1 - 1 = d then 4 else if r.1 + 1 = d then 5 else zps d
/-- a command: where its literals stand, how many, copy symbol, length, distance symbol (one more, 0 for none), distance, what it yields, whether a word -/
abbrev zCmd : Type := Nat × Nat × Nat × Nat × Nat × Nat × Nat × Nat
def zfinc (e lf : Nat) (cs : List zCmd) : List zCmd := if lf < e then cs ++ [(lf, e - lf, 0, 2, 0, 0, 0, 0)] else cs
def zpar (T : List Nat) (e : Nat) : Nat → Nat → Nat → zRg → List zCmd → List zCmd × zRg
  | 0, _, lf, r, cs => (zfinc e lf cs, r)
  | t + 1, q, lf, r, cs => if e ≤ q then (zfinc e lf cs, r)
    else if 4 ≤ (zwrd T q e).1 ∧ (zcpy T q e).1 < (zwrd T q e).1 then zpar T e t (q + (zwrd T q e).1) (q + (zwrd T q e).1) r (cs ++ [(lf, q - lf, zcs (zwrd T q e).2.1, (zwrd T q e).2.1, zps (q + 1 + (zwrd T q e).2.2) + 1, q + 1 + (zwrd T q e).2.2, (zwrd T q e).1, 1)])
    else if 3 ≤ (zcpy T q e).1 then
      (if (zcpy T q e).1 = 3 ∧ r.1 = (zcpy T q e).2 then zpar T e t (q + (zcpy T q e).1) (q + (zcpy T q e).1) r (cs ++ [(lf, q - lf, 7, (zcpy T q e).1, 0, (zcpy T q e).2, (zcpy T q e).1, 0)])
       else zpar T e t (q + (zcpy T q e).1) (q + (zcpy T q e).1) (if zrsy r (zcpy T q e).2 = 0 then r else zrem r (zcpy T q e).2) (cs ++ [(lf, q - lf, zcs (zcpy T q e).1, (zcpy T q e).1, zrsy r (zcpy T q e).2 + 1, (zcpy T q e).2, (zcpy T q e).1, 0)]))
    else zpar T e t (q + 1) lf r cs
/-- a symbol as the programs keep it -/
def zsI (s : Nat) : Int32 := if s = 0 then -1 else nI (s - 1)
end zPspec
