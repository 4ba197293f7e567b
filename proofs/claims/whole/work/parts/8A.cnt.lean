/-! how often each symbol comes in a block's commands, in pure numbers; what parse gives -/
section zCnt
variable {T : List Nat} {map : Bool}
def zsml2 (T : List Nat) (map : Bool) (q : Nat) : Bool := map && decide (0 < q ∧ 97 ≤ T.getD (q - 1) 0 ∧ T.getD (q - 1) 0 ≤ 122)
def zli (T : List Nat) (map : Bool) (q : Nat) : Nat := (if zsml2 T map q = true then 256 else 0) + T.getD q 0
def zltc (T : List Nat) (map : Bool) (i : Nat) : Nat → Nat → Nat
  | 0, _ => 0
  | n + 1, q => (if zli T map q = i then 1 else 0) + zltc T map i n (q + 1)
def zcc1 (T : List Nat) (map : Bool) (c : zCmd) (i : Nat) : Nat := (if 512 + (8 * zis c.2.1 + c.2.2.1) = i then 1 else 0) + zltc T map i c.2.1 c.1 + (if c.2.2.2.2.1 ≠ 0 ∧ 768 + (c.2.2.2.2.1 - 1) = i then 1 else 0)
def zctm (T : List Nat) (map : Bool) (cs : List zCmd) (i : Nat) : Nat := (cs.map (fun c => zcc1 T map c i)).sum
def zcok (c : zCmd) : Prop := c.2.1 ≤ 48 ∧ c.2.2.1 < 8 ∧ c.2.2.2.1 < 100 ∧ c.2.2.2.2.1 ≤ 14 ∧ c.2.2.2.2.2.1 < 140 ∧ (7 ≤ c.2.2.2.2.1 → zDB.getD (c.2.2.2.2.1 - 1) 0 ≤ c.2.2.2.2.2.1) ∧ (c.2.2.2.2.2.2.1 = 0 → c.2.2.1 = 0) ∧ (c.2.2.2.2.2.2.2 = 1 → c.2.2.2.2.2.2.1 ≠ 0) ∧ c.2.2.2.2.2.2.2 ≤ 1 ∧ (c.2.2.2.2.2.2.1 ≠ 0 → c.2.2.2.1 ≠ 0)
def zch2 : Nat → List zCmd → Nat → Prop
  | q, [], e => q = e
  | q, c :: cs, e => c.1 = q ∧ zch2 (q + c.2.1 + c.2.2.2.2.2.2.1) cs e
theorem zch2_app {c : zCmd} : ∀ (cs : List zCmd) (q lf : Nat), zch2 q cs lf → c.1 = lf → zch2 q (cs ++ [c]) (lf + c.2.1 + c.2.2.2.2.2.2.1) := by
  intro cs
  induction cs with
  | nil =>
    intro q lf h hc
    have h : q = lf := h
    subst h
    exact ⟨hc, rfl⟩
  | cons a cs ih =>
    intro q lf h hc
    exact ⟨h.1, ih _ _ h.2 hc⟩
/-- what parse gives -/
def zCok (p e : Nat) (cs : List zCmd) : Prop := zch2 p cs e ∧ (∀ c ∈ cs, zcok c) ∧ cs.length ≤ 17
theorem zpar_ok {p e : Nat} (hpe : p + 48 ≥ e) (he : e ≤ 96) : ∀ (t q lf : Nat) (r : zRg) (cs : List zCmd), e - q ≤ t → lf ≤ q → q ≤ e → p ≤ lf → 3 * cs.length + p ≤ lf → zch2 p cs lf → (∀ c ∈ cs, zcok c) → zCok p e (zpar T e t q lf r cs).1 := by
  have kfin : ∀ (lf : Nat) (cs : List zCmd), lf ≤ e → p ≤ lf → 3 * cs.length + p ≤ lf → zch2 p cs lf → (∀ c ∈ cs, zcok c) → zCok p e (zfinc e lf cs) := by
    intro lf cs h1 hpl h2 h3 h4
    unfold zfinc
    split
    · refine ⟨?_, fun c hc => ?_, by rw [List.length_append, List.length_singleton]; omega⟩
      · have := zch2_app (c := (lf, e - lf, 0, 2, 0, 0, 0, 0)) cs p lf h3 rfl
        have e1 : lf + (e - lf) + 0 = e := by omega
        rw [show lf + ((lf, e - lf, 0, 2, 0, 0, 0, 0) : zCmd).2.1 + ((lf, e - lf, 0, 2, 0, 0, 0, 0) : zCmd).2.2.2.2.2.2.1 = e from e1] at this
        exact this
      · rcases List.mem_append.mp hc with hc | hc
        · exact h4 c hc
        · rw [List.mem_singleton] at hc
          subst hc
          exact ⟨by show e - lf ≤ 48; omega, (by decide : 0 < 8), (by decide : 2 < 100), (by decide : 0 ≤ 14), (by decide : 0 < 140), fun w => absurd (show 7 ≤ 0 from w) (by decide), fun _ => rfl, fun w => absurd (show 0 = 1 from w) (by decide), (by decide : 0 ≤ 1), fun w => absurd rfl w⟩
    · have e1 : lf = e := by omega
      subst e1
      exact ⟨h3, h4, by omega⟩
  intro t
  induction t with
  | zero =>
    intro q lf r cs h1 h2 h3 hpl h4 h5 h6
    exact kfin lf cs (by omega) hpl h4 h5 h6
  | succ t ih =>
    intro q lf r cs h1 h2 h3 hpl h4 h5 h6
    rw [zpar]
    split
    · exact kfin lf cs (by omega) hpl h4 h5 h6
    rename_i hqe
    obtain ⟨c1, c2⟩ := zcpy_in (T := T) (q := q) (e := e)
    have w1 := zwrd_in (T := T) (q := q) (e := e)
    unfold zWok at w1
    have happ : ∀ (n : Nat) (c : zCmd), c.1 = lf → c.2.1 = q - lf → c.2.2.2.2.2.2.1 = n → zch2 p (cs ++ [c]) (q + n) := by
      intro n c e1 e2 e3
      have := zch2_app (c := c) cs p lf h5 e1
      rw [e2, e3, show lf + (q - lf) + n = q + n by omega] at this
      exact this
    have hall : ∀ c : zCmd, zcok c → ∀ x ∈ cs ++ [c], zcok x := by
      intro c hc x hx
      rcases List.mem_append.mp hx with hx | hx
      · exact h6 x hx
      · rw [List.mem_singleton] at hx
        rw [hx]
        exact hc
    split
    · rename_i hc
      obtain ⟨v1, v2, v3, v4⟩ := w1 (by omega)
      obtain ⟨s1, s2, s3, s4⟩ := zps_in (dd := q + 1 + (zwrd T q e).2.2) (by omega) (by omega)
      refine ih _ _ r _ (by omega) (Nat.le_refl _) (by omega) (by omega) (by rw [List.length_append, List.length_singleton]; omega) (happ _ _ rfl rfl rfl) (hall _ ⟨by show q - lf ≤ 48; omega, ?_, by show (zwrd T q e).2.1 < 100; omega, by show zps _ + 1 ≤ 14; omega, by show q + 1 + _ < 140; omega, fun _ => by show zDB.getD (zps _ + 1 - 1) 0 ≤ _; rw [Nat.add_sub_cancel]; exact s4, fun w => by have w : (zwrd T q e).1 = 0 := w; omega, fun _ => by show (zwrd T q e).1 ≠ 0; omega, Nat.le_refl _, fun _ => by show (zwrd T q e).2.1 ≠ 0; omega⟩)
      have := (zcs_eq ⟨(zwrd T q e).2.1, by omega⟩ (by show 2 ≤ (zwrd T q e).2.1; omega)).2
      exact Nat.lt_succ_of_lt this
    split
    · rename_i h3c
      obtain ⟨d1, d2⟩ := c2 (by omega)
      split
      · refine ih _ _ r _ (by omega) (Nat.le_refl _) (by omega) (by omega) (by rw [List.length_append, List.length_singleton]; omega) (happ _ _ rfl rfl rfl) (hall _ ⟨by show q - lf ≤ 48; omega, (by decide : 7 < 8), by show (zcpy T q e).1 < 100; omega, (by decide : 0 ≤ 14), by show (zcpy T q e).2 < 140; omega, fun w => absurd (show 7 ≤ 0 from w) (by decide), fun w => by have w : (zcpy T q e).1 = 0 := w; omega, fun w => absurd (show 0 = 1 from w) (by decide), (by decide : 0 ≤ 1), fun _ => by show (zcpy T q e).1 ≠ 0; omega⟩)
      · have hs14 := zrsy_lt (r := r) d1 (show (zcpy T q e).2 < 140 by omega)
        refine ih _ _ _ _ (by omega) (Nat.le_refl _) (by omega) (by omega) (by rw [List.length_append, List.length_singleton]; omega) (happ _ _ rfl rfl rfl) (hall _ ⟨by show q - lf ≤ 48; omega, ?_, by show (zcpy T q e).1 < 100; omega, by show zrsy r _ + 1 ≤ 14; omega, by show (zcpy T q e).2 < 140; omega, fun w => ?_, fun w => by have w : (zcpy T q e).1 = 0 := w; omega, fun w => absurd (show 0 = 1 from w) (by decide), (by decide : 0 ≤ 1), fun _ => by show (zcpy T q e).1 ≠ 0; omega⟩)
        · have := (zcs_eq ⟨(zcpy T q e).1, by omega⟩ (by show 2 ≤ (zcpy T q e).1; omega)).2
          exact Nat.lt_succ_of_lt this
        · have w : 7 ≤ zrsy r (zcpy T q e).2 + 1 := w
          show zDB.getD (zrsy r (zcpy T q e).2 + 1 - 1) 0 ≤ (zcpy T q e).2
          rw [Nat.add_sub_cancel]
          have e1 : zrsy r (zcpy T q e).2 = zps (zcpy T q e).2 := by
            unfold zrsy at w ⊢
            repeat' split
            all_goals first | rfl | (exfalso; simp_all <;> omega)
          rw [e1]
          exact (zps_in d1 (by omega)).2.2.2
    · exact ih (q + 1) lf r cs (by omega) (by omega) (by omega) hpl h4 h5 h6
theorem zch2_n {e : Nat} : ∀ (cs : List zCmd) (q : Nat), zch2 q cs e → q + (cs.map (fun c => c.2.1)).sum ≤ e := by
  intro cs
  induction cs with
  | nil => intro q h; have h : q = e := h; simp; omega
  | cons a cs ih =>
    intro q h
    rw [List.map_cons, List.sum_cons]
    have := ih _ h.2
    omega
theorem zcc1_le {cs : List zCmd} {c : zCmd} {i : Nat} (h : c ∈ cs) : zcc1 T map c i ≤ zctm T map cs i := by
  unfold zctm
  induction cs with
  | nil => cases h
  | cons a cs ih =>
    rw [List.map_cons, List.sum_cons]
    rcases List.mem_cons.mp h with rfl | h
    · omega
    · have := ih h
      omega
theorem zli_lt (hT : ∀ x ∈ T, x < 256) (q : Nat) : zli T map q < 512 := by
  have := zT_b (T := T) (i := q) hT
  unfold zli
  split <;> omega
theorem zltc_le {i : Nat} : ∀ (n q : Nat), zltc T map i n q ≤ n := by
  intro n
  induction n with
  | zero => intro q; exact Nat.le_refl _
  | succ n ih =>
    intro q
    rw [zltc]
    have := ih (q + 1)
    split <;> omega
theorem zltc_0 (hT : ∀ x ∈ T, x < 256) {i : Nat} (hi : 512 ≤ i) : ∀ (n q : Nat), zltc T map i n q = 0 := by
  intro n
  induction n with
  | zero => intro q; rfl
  | succ n ih =>
    intro q
    have := zli_lt (map := map) hT q
    rw [zltc, ih, if_neg (by omega)]
theorem zltc_pos {n q j : Nat} (hj : j < n) : 1 ≤ zltc T map (zli T map (q + j)) n q := by
  induction n generalizing q j with
  | zero => omega
  | succ n ih =>
    rw [zltc]
    cases j with
    | zero =>
      rw [Nat.add_zero, if_pos rfl]
      omega
    | succ j =>
      have := ih (q := q + 1) (j := j) (by omega)
      rw [show q + 1 + j = q + (j + 1) by omega] at this
      omega
/-- sums over symbols -/
def zrs2 (S : Nat) (f : Nat → Nat) : Nat := ((List.range S).map f).sum
theorem zrs2_succ {S : Nat} {f : Nat → Nat} : zrs2 (S + 1) f = zrs2 S f + f S := by
  unfold zrs2
  rw [List.range_succ, List.map_append, List.sum_append]
  simp
theorem zrs2_add {f g : Nat → Nat} : ∀ S, zrs2 S (fun s => f s + g s) = zrs2 S f + zrs2 S g := by
  intro S
  induction S with
  | zero => rfl
  | succ S ih =>
    rw [zrs2_succ, zrs2_succ, zrs2_succ, ih]
    omega
theorem zrs2_zero {f : Nat → Nat} : ∀ S, (∀ s, s < S → f s = 0) → zrs2 S f = 0 := by
  intro S
  induction S with
  | zero => intro _; rfl
  | succ S ih =>
    intro h
    rw [zrs2_succ, ih (fun s hs => h s (by omega)), h S (by omega)]
theorem zrs2_le {f g : Nat → Nat} : ∀ S, (∀ s, s < S → f s ≤ g s) → zrs2 S f ≤ zrs2 S g := by
  intro S
  induction S with
  | zero => intro _; exact Nat.le_refl _
  | succ S ih =>
    intro h
    rw [zrs2_succ, zrs2_succ]
    have := ih (fun s hs => h s (by omega))
    have := h S (by omega)
    omega
theorem zrs2_ind {B x : Nat} : ∀ S, zrs2 S (fun s => if x = B + s then 1 else 0) ≤ (if x < B + S then 1 else 0) := by
  intro S
  induction S with
  | zero => exact Nat.zero_le _
  | succ S ih =>
    rw [zrs2_succ]
    by_cases h : x = B + S
    · rw [if_pos h, if_pos (by omega)]
      rw [if_neg (by omega)] at ih
      omega
    · rw [if_neg h]
      by_cases h2 : x < B + (S + 1)
      · rw [if_pos h2]
        rw [if_pos (by omega)] at ih
        omega
      · rw [if_neg h2]
        rw [if_neg (by omega)] at ih
        omega
theorem zrs2_1 {B x S : Nat} : zrs2 S (fun s => if x = B + s then 1 else 0) ≤ 1 := by
  have := zrs2_ind (B := B) (x := x) S
  split at this <;> omega
theorem zrs2_lit {B S : Nat} : ∀ (n q : Nat), zrs2 S (fun s => zltc T map (B + s) n q) ≤ n := by
  intro n
  induction n with
  | zero =>
    intro q
    exact Nat.le_of_eq (zrs2_zero (f := fun s => zltc T map (B + s) 0 q) S (fun s _ => rfl))
  | succ n ih =>
    intro q
    have h1 : zrs2 S (fun s => zltc T map (B + s) (n + 1) q) = zrs2 S (fun s => if zli T map q = B + s then 1 else 0) + zrs2 S (fun s => zltc T map (B + s) n (q + 1)) := by
      rw [← zrs2_add] <;> rfl
    rw [h1]
    have := ih (q + 1)
    have := zrs2_1 (B := B) (x := zli T map q) (S := S)
    omega
theorem zrs2_cmd {B S : Nat} (hT : ∀ x ∈ T, x < 256) (c : zCmd) : zrs2 S (fun s => zcc1 T map c (B + s)) ≤ (if B + S ≤ 512 then c.2.1 else if 512 ≤ B then 2 else c.2.1 + 2) := by
  have h1 : zrs2 S (fun s => zcc1 T map c (B + s)) = zrs2 S (fun s => if 512 + (8 * zis c.2.1 + c.2.2.1) = B + s then 1 else 0) + zrs2 S (fun s => zltc T map (B + s) c.2.1 c.1) + zrs2 S (fun s => if c.2.2.2.2.1 ≠ 0 ∧ 768 + (c.2.2.2.2.1 - 1) = B + s then 1 else 0) := by
    rw [← zrs2_add, ← zrs2_add] <;> rfl
  have h2 := zrs2_lit (T := T) (map := map) (B := B) (S := S) c.2.1 c.1
  have h3 := zrs2_1 (B := B) (x := 512 + (8 * zis c.2.1 + c.2.2.1)) (S := S)
  have h4 : zrs2 S (fun s => if c.2.2.2.2.1 ≠ 0 ∧ 768 + (c.2.2.2.2.1 - 1) = B + s then 1 else 0) ≤ zrs2 S (fun s => if 768 + (c.2.2.2.2.1 - 1) = B + s then 1 else 0) := by
    refine zrs2_le S (fun s _ => ?_)
    by_cases h : 768 + (c.2.2.2.2.1 - 1) = B + s
    · rw [if_pos h]
      split <;> omega
    · rw [if_neg h, if_neg (fun w => h w.2)]
      exact Nat.le_refl _
  have h5 := zrs2_1 (B := B) (x := 768 + (c.2.2.2.2.1 - 1)) (S := S)
  rw [h1]
  by_cases hb : B + S ≤ 512
  · rw [if_pos hb]
    have e1 : zrs2 S (fun s => if 512 + (8 * zis c.2.1 + c.2.2.1) = B + s then 1 else 0) = 0 := zrs2_zero S (fun s hs => if_neg (by omega))
    have e2 : zrs2 S (fun s => if 768 + (c.2.2.2.2.1 - 1) = B + s then 1 else 0) = 0 := zrs2_zero S (fun s hs => if_neg (by omega))
    omega
  · rw [if_neg hb]
    by_cases hb2 : 512 ≤ B
    · rw [if_pos hb2]
      have e1 : zrs2 S (fun s => zltc T map (B + s) c.2.1 c.1) = 0 := zrs2_zero S (fun s hs => zltc_0 hT (by omega) _ _)
      omega
    · rw [if_neg hb2]
      omega
theorem zrs2_all {B S : Nat} (hT : ∀ x ∈ T, x < 256) (hB : B + S ≤ 512 ∨ 512 ≤ B) : ∀ cs : List zCmd, zrs2 S (fun s => zctm T map cs (B + s)) ≤ (if B + S ≤ 512 then (cs.map (fun c => c.2.1)).sum else 2 * cs.length) := by
  intro cs
  induction cs with
  | nil =>
    exact Nat.le_trans (Nat.le_of_eq (zrs2_zero (f := fun s => zctm T map [] (B + s)) S (fun s _ => rfl))) (Nat.zero_le _)
  | cons a cs ih =>
    have h1 : zrs2 S (fun s => zctm T map (a :: cs) (B + s)) = zrs2 S (fun s => zcc1 T map a (B + s)) + zrs2 S (fun s => zctm T map cs (B + s)) := by
      rw [← zrs2_add] <;> rfl
    have h2 := zrs2_cmd (T := T) (map := map) (B := B) (S := S) hT a
    rw [h1, List.map_cons, List.sum_cons, List.length_cons]
    by_cases hb : B + S ≤ 512
    · rw [if_pos hb] at h2 ih ⊢
      omega
    · rw [if_neg hb] at h2 ih ⊢
      rw [if_pos (by omega)] at h2
      omega
theorem ztot_rs2 {tm : Nat → Nat} : ∀ S, ztot tm (zlst tm S) ≤ zrs2 S tm := by
  intro S
  induction S with
  | zero => exact Nat.le_refl _
  | succ S ih =>
    rw [zlst_succ, zrs2_succ]
    split
    · unfold ztot at ih ⊢
      rw [List.map_append, List.sum_append]
      simp
      omega
    · omega
/-- the counts are small -/
theorem zctm_sum {p e B S nb : Nat} {cs : List zCmd} (hb : zBase B S nb) (hT : ∀ x ∈ T, x < 256) (hc : zCok p e cs) (hpe : e ≤ p + 48) : ztot (fun s => zctm T map cs (B + s)) (zlst (fun s => zctm T map cs (B + s)) S) ≤ 48 := by
  have h1 := ztot_rs2 (tm := fun s => zctm T map cs (B + s)) S
  have hB : B + S ≤ 512 ∨ 512 ≤ B := by
    rcases hb with h | h | h | h <;> omega
  have h2 := zrs2_all (T := T) (map := map) (B := B) (S := S) hT hB cs
  have h3 := zch2_n cs p hc.1
  have h4 := hc.2.2
  split at h2 <;> omega
theorem zctm_48 {p e i : Nat} {cs : List zCmd} (hT : ∀ x ∈ T, x < 256) (hc : zCok p e cs) (hpe : e ≤ p + 48) : zctm T map cs i ≤ 48 := by
  have h3 := zch2_n cs p hc.1
  have h4 := hc.2.2
  have key : ∀ l : List zCmd, zctm T map l i ≤ (if i < 512 then (l.map (fun c => c.2.1)).sum else 2 * l.length) := by
    intro l
    induction l with
    | nil => exact Nat.zero_le _
    | cons a l ih =>
      show zcc1 T map a i + zctm T map l i ≤ _
      rw [List.map_cons, List.sum_cons, List.length_cons]
      have h5 := zltc_le (T := T) (map := map) (i := i) a.2.1 a.1
      unfold zcc1
      by_cases hi : i < 512
      · rw [if_pos hi] at ih ⊢
        rw [if_neg (show ¬ 512 + (8 * zis a.2.1 + a.2.2.1) = i by omega), if_neg (show ¬ (a.2.2.2.2.1 ≠ 0 ∧ 768 + (a.2.2.2.2.1 - 1) = i) by omega)]
        omega
      · rw [if_neg hi] at ih ⊢
        rw [zltc_0 hT (by omega)]
        split <;> split <;> omega
  have := key cs
  split at this <;> omega
end zCnt
