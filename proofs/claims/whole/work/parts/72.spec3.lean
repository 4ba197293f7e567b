/-! what a stream says, in pure numbers: commands, blocks, the whole -/
section zSpec3
def zIB : List Nat := [0, 1, 2, 6]
def zIT : List Nat := [0, 0, 2, 6]
def zCB : List Nat := [2, 3, 4, 5, 6, 10, 26, 3]
def zCT : List Nat := [0, 0, 0, 0, 2, 4, 5, 0]
def zDB : List Nat := [0, 0, 0, 0, 0, 0, 1, 2, 3, 5, 9, 17, 33, 65]
def zDT : List Nat := [0, 0, 0, 0, 0, 0, 0, 0, 1, 2, 3, 4, 5, 6]
abbrev zRg : Type := Nat × Nat × Nat × Nat
/-- the place in the stream, the bytes so far, the ring, copies, words, code words -/
abbrev zU : Type := Nat × List Nat × zRg × Nat × Nat × Nat
abbrev zCo : Type := List (Nat × Nat) × List (Nat × Nat) × List (Nat × Nat) × List (Nat × Nat)
def zsml (o : List Nat) : Bool := decide (0 < o.length ∧ 97 ≤ o.getD (o.length - 1) 0 ∧ o.getD (o.length - 1) 0 ≤ 122)
def zlits (f : Nat → Int32) (N : Nat) (K : zCo) (map : Bool) : Nat → Nat → List Nat → Option (Nat × List Nat)
  | 0, P, o => some (P, o)
  | n + 1, P, o => match zrs f N (if (map && zsml o) = true then K.2.1 else K.1) P with
    | none => none
    | some (s, P') => zlits f N K map n P' (o ++ [s])
def zcp (d : Nat) : Nat → List Nat → List Nat
  | 0, o => o
  | m + 1, o => zcp d m (o ++ [o.getD (o.length - d) 0])
def zwb (m x : Nat) : Nat → Nat → List Nat → List Nat
  | 0, _, o => o
  | r + 1, k, o => zwb m x r (k + 1) (o ++ [(zby m x k).toNatClampNeg])
def zrg (r : zRg) (s : Nat) : Nat := if s = 0 then r.1 else if s = 1 then r.2.1 else if s = 2 then r.2.2.1 else if s = 3 then r.2.2.2 else if s = 4 then r.1 - 1 else r.1 + 1
def zrem (r : zRg) (d : Nat) : zRg := (d, r.1, r.2.1, r.2.2.1)
/-- the symbol, the distance, the place, the code words -/
def zdst (f : Nat → Int32) (N : Nat) (ld : List (Nat × Nat)) (c : Nat) (r : zRg) (P e : Nat) : Option (Nat × Nat × Nat × Nat) :=
  if c = 7 then some (0, r.1, P, e) else match zrs f N ld P with
    | none => none
    | some (s, P1) => if 6 ≤ s then (match zrd f N P1 (zDT.getD s 0) with
        | none => none
        | some (v, P2) => some (s, zDB.getD s 0 + v, P2, e + 1))
      else some (s, zrg r s, P1, e + 1)
def zend (cap m s d P : Nat) (o : List Nat) (r : zRg) (b c e : Nat) : Option zU :=
  if d < 1 then none
  else if d ≤ o.length then (if cap < o.length + m then none else some (P, zcp d m o, if s = 0 then r else zrem r d, b + 1, c, e))
  else if (m = 4 ∨ m = 5) ∧ d - o.length - 1 < 16 ∧ o.length + zyo m (d - o.length - 1) ≤ cap then some (P, zwb m (d - o.length - 1) (zyo m (d - o.length - 1)) 0 o, r, b, c + 1, e)
  else none
/-- what follows a command's literals -/
def zaft (f : Nat → Int32) (N : Nat) (ld : List (Nat × Nat)) (cap limit c m P : Nat) (o : List Nat) (r : zRg) (b w e : Nat) : Option zU :=
  if o.length = limit then some (P, o, r, b, w, e) else match zdst f N ld c r P e with
    | none => none
    | some (s, d, P5, e5) => zend cap m s d P5 o r b w e5
def zcmd (f : Nat → Int32) (N : Nat) (K : zCo) (map : Bool) (cap limit : Nat) (u : zU) : Option zU := match zrs f N K.2.2.1 u.1 with
  | none => none
  | some (y, P1) => match zrd f N P1 (zIT.getD (y / 8) 0) with
    | none => none
    | some (v, P2) => match zrd f N P2 (zCT.getD (y % 8) 0) with
      | none => none
      | some (w, P3) => if cap < u.2.1.length + (zIB.getD (y / 8) 0 + v) then none else match zlits f N K map (zIB.getD (y / 8) 0 + v) P3 u.2.1 with
        | none => none
        | some (P4, o1) => zaft f N K.2.2.2 cap limit (y % 8) (zCB.getD (y % 8) 0 + w) P4 o1 u.2.2.1 u.2.2.2.1 u.2.2.2.2.1 (u.2.2.2.2.2 + 1 + (zIB.getD (y / 8) 0 + v))
def zcmds (f : Nat → Int32) (N : Nat) (K : zCo) (map : Bool) (cap limit : Nat) : Nat → zU → Option zU
  | 0, u => if u.2.1.length = limit then some u else none
  | t + 1, u => if limit ≤ u.2.1.length then (if u.2.1.length = limit then some u else none) else match zcmd f N K map cap limit u with
    | none => none
    | some u' => zcmds f N K map cap limit t u'
def zraw (f : Nat → Int32) (N : Nat) : Nat → Nat → List Nat → Option (Nat × List Nat)
  | 0, P, o => some (P, o)
  | n + 1, P, o => match zrd f N P 8 with
    | none => none
    | some (v, P') => zraw f N n P' (o ++ [v])
def zpdd (f : Nat → Int32) (N P : Nat) : Option Nat := match zrd f N P ((8 - P % 8) % 8) with
  | none => none
  | some (v, P') => if v = 0 then some P' else none
/-- the codes of a coded block, behind its map bit -/
def zcd4 (f : Nat → Int32) (N : Nat) (map : Bool) (P1 : Nat) : Option (zCo × Nat) := match zrdCode f N 256 8 P1 with
  | none => none
  | some (la, P2) => match (if map = true then zrdCode f N 256 8 P2 else some ([], P2)) with
    | none => none
    | some (lb, P3) => match zrdCode f N 32 5 P3 with
      | none => none
      | some (lc, P4) => match zrdCode f N 14 4 P4 with
        | none => none
        | some (ld, P5) => some ((la, lb, lc, ld), P5)
def zcodes (f : Nat → Int32) (N P : Nat) : Option (Bool × zCo × Nat) := match zrd f N P 1 with
  | none => none
  | some (x, P1) => match zcd4 f N (decide (x = 1)) P1 with
    | none => none
    | some (K, P5) => some (decide (x = 1), K, P5)
def zcoded (f : Nat → Int32) (N cap limit : Nat) (u : zU) (a : Nat) : Option (zU × Nat) := match zcodes f N u.1 with
  | none => none
  | some (map, K, P) => match zcmds f N K map cap limit 64 (P, u.2) with
    | none => none
    | some u' => some (u', a + 1)
def zrawb (f : Nat → Int32) (N cap limit : Nat) (u : zU) (a : Nat) : Option (zU × Nat) := match zpdd f N u.1 with
  | none => none
  | some P => if cap < limit then none else match zraw f N (limit - u.2.1.length) P u.2.1 with
    | none => none
    | some (P', o) => some ((P', o, u.2.2), a)
def zbody (f : Nat → Int32) (N : Nat) (last : Bool) (P : Nat) (u : zU) (a : Nat) : Option (Bool × zU × Nat) := match zrd f N P 1 with
  | none => none
  | some (x, P1) => match zrd f N P1 6 with
    | none => none
    | some (v, P2) => if 96 < u.2.1.length + v + 1 then none else match (if x = 1 then zcoded f N (u.2.1.length + v + 1) (u.2.1.length + v + 1) (P2, u.2) a else zrawb f N (u.2.1.length + v + 1) (u.2.1.length + v + 1) (P2, u.2) a) with
      | none => none
      | some (u', a') => some (last, u', a')
def zblk (f : Nat → Int32) (N : Nat) (u : zU) (a : Nat) : Option (Bool × zU × Nat) := match zrd f N u.1 1 with
  | none => none
  | some (x, P1) => if x = 1 then (match zrd f N P1 1 with
      | none => none
      | some (z, P2) => if z = 1 then some (true, (P2, u.2), a) else zbody f N true P2 u a)
    else zbody f N false P1 u a
def zall (f : Nat → Int32) (N : Nat) : Nat → zU → Nat → Option (zU × Nat)
  | 0, _, _ => none
  | t + 1, u, a => match zblk f N u a with
    | none => none
    | some (last, u', a') => if last = true then some (u', a') else zall f N t u' a'
def zunp (f : Nat → Int32) (N : Nat) : Option (zU × Nat) := match zall f N 97 (0, [], (1, 2, 4, 8), 0, 0, 0) 0 with
  | none => none
  | some (u, a) => match zpdd f N u.1 with
    | none => none
    | some P => if P = N then some (u, a) else none
/-! lengths -/
theorem zlits_len {f : Nat → Int32} {N : Nat} {K : zCo} {map : Bool} : ∀ (n P : Nat) (o : List Nat) {P' : Nat} {o' : List Nat}, zlits f N K map n P o = some (P', o') → o'.length = o.length + n := by
  intro n
  induction n with
  | zero => intro P o P' o' h; cases h; rfl
  | succ n ih =>
    intro P o P' o' h
    unfold zlits at h
    cases hz : zrs f N (if (map && zsml o) = true then K.2.1 else K.1) P with
    | none => rw [hz] at h; cases h
    | some q =>
      rw [hz] at h
      have := ih _ _ h
      rw [List.length_append, List.length_singleton] at this
      omega
theorem zcp_len {d : Nat} : ∀ (m : Nat) (o : List Nat), (zcp d m o).length = o.length + m := by
  intro m
  induction m with
  | zero => intro o; rfl
  | succ m ih =>
    intro o
    show (zcp d m (o ++ [o.getD (o.length - d) 0])).length = _
    rw [ih, List.length_append, List.length_singleton]
    omega
theorem zwb_len {m x : Nat} : ∀ (r k : Nat) (o : List Nat), (zwb m x r k o).length = o.length + r := by
  intro r
  induction r with
  | zero => intro k o; rfl
  | succ r ih =>
    intro k o
    show (zwb m x r (k + 1) (o ++ [(zby m x k).toNatClampNeg])).length = _
    rw [ih, List.length_append, List.length_singleton]
    omega
theorem zend_len {cap m s d P : Nat} {o : List Nat} {r : zRg} {b c e : Nat} {u : zU} (hm : 2 ≤ m) (h : zend cap m s d P o r b c e = some u) : o.length < u.2.1.length ∧ u.2.1.length ≤ cap := by
  unfold zend at h
  split at h
  · cases h
  split at h
  · split at h
    · cases h
    · cases h
      show o.length < (zcp d m o).length ∧ (zcp d m o).length ≤ cap
      rw [zcp_len]
      omega
  split at h
  · rename_i hc
    cases h
    show o.length < (zwb m (d - o.length - 1) (zyo m (d - o.length - 1)) 0 o).length ∧ (zwb m (d - o.length - 1) (zyo m (d - o.length - 1)) 0 o).length ≤ cap
    rw [zwb_len]
    have : 3 ≤ zyo m (d - o.length - 1) := by
      unfold zyo
      split
      · omega
      · split <;> omega
    omega
  · cases h
theorem zaft_len {f : Nat → Int32} {N : Nat} {ld : List (Nat × Nat)} {cap limit c m P : Nat} {o : List Nat} {r : zRg} {b w e : Nat} {u : zU} (hm : 2 ≤ m) (ho : o.length ≤ cap) (h : zaft f N ld cap limit c m P o r b w e = some u) : (o.length = limit ∨ o.length < u.2.1.length) ∧ o.length ≤ u.2.1.length ∧ u.2.1.length ≤ cap := by
  unfold zaft at h
  split at h
  · rename_i q
    cases h
    exact ⟨Or.inl q, Nat.le_refl _, ho⟩
  · split at h
    · cases h
    · have := zend_len hm h
      omega
theorem zCB_2 : ∀ c : Fin 8, 2 ≤ zCB.getD c.val 0 := by decide
theorem zcmd_len {f : Nat → Int32} {N : Nat} {K : zCo} {map : Bool} {cap limit : Nat} {u u' : zU} (hu : u.2.1.length < limit) (h : zcmd f N K map cap limit u = some u') : u.2.1.length < u'.2.1.length ∧ u'.2.1.length ≤ cap := by
  unfold zcmd at h
  split at h
  · cases h
  split at h
  · cases h
  split at h
  · cases h
  split at h
  · cases h
  rename_i hcap
  split at h
  · cases h
  rename_i P4 o1 hl
  have h1 := zlits_len _ _ _ hl
  have h2 := zaft_len (by
    refine Nat.le_trans (zCB_2 ⟨_, Nat.mod_lt _ (by decide)⟩) (Nat.le_add_right _ _)) (by omega) h
  omega
theorem zcmds_len {f : Nat → Int32} {N : Nat} {K : zCo} {map : Bool} {cap limit : Nat} : ∀ (t : Nat) (u : zU) {u' : zU}, zcmds f N K map cap limit t u = some u' → u'.2.1.length = limit := by
  intro t
  induction t with
  | zero =>
    intro u u' h
    unfold zcmds at h
    split at h
    · cases h; assumption
    · cases h
  | succ t ih =>
    intro u u' h
    unfold zcmds at h
    split at h
    · split at h
      · cases h; assumption
      · cases h
    · split at h
      · cases h
      · exact ih _ h
theorem zcmds_over {f : Nat → Int32} {N : Nat} {K : zCo} {map : Bool} {cap limit : Nat} (hc : cap < limit) : ∀ (t : Nat) (u : zU), u.2.1.length ≤ cap → zcmds f N K map cap limit t u = none := by
  intro t
  induction t with
  | zero =>
    intro u hu
    unfold zcmds
    rw [if_neg (by omega)]
  | succ t ih =>
    intro u hu
    unfold zcmds
    rw [if_neg (by omega)]
    split
    · rfl
    · rename_i u' hz
      exact ih _ (zcmd_len (by omega) hz).2
theorem zraw_len {f : Nat → Int32} {N : Nat} : ∀ (n P : Nat) (o : List Nat) {P' : Nat} {o' : List Nat}, zraw f N n P o = some (P', o') → o'.length = o.length + n := by
  intro n
  induction n with
  | zero => intro P o P' o' h; cases h; rfl
  | succ n ih =>
    intro P o P' o' h
    unfold zraw at h
    split at h
    · cases h
    · have := ih _ _ h
      rw [List.length_append, List.length_singleton] at this
      omega
theorem zbody_len {f : Nat → Int32} {N : Nat} {last : Bool} {P : Nat} {u u' : zU} {a a' : Nat} {last' : Bool} (h : zbody f N last P u a = some (last', u', a')) : u.2.1.length < u'.2.1.length ∧ u'.2.1.length ≤ 96 ∧ last' = last := by
  unfold zbody at h
  split at h
  · cases h
  split at h
  · cases h
  split at h
  · cases h
  rename_i x P1 hx v P2 hv h96
  split at h
  · cases h
  rename_i u1 a1 hc
  cases h
  split at hc
  · unfold zcoded at hc
    split at hc
    · cases hc
    split at hc
    · cases hc
    rename_i hz
    cases hc
    have := zcmds_len _ _ hz
    refine ⟨?_, ?_, rfl⟩ <;> omega
  · unfold zrawb at hc
    split at hc
    · cases hc
    split at hc
    · cases hc
    split at hc
    · cases hc
    rename_i P' o' hz
    cases hc
    have := zraw_len _ _ _ hz
    have e1 : u.2.1.length + v + 1 - u.2.1.length = v + 1 := by omega
    have e2 : ((P2, u.2) : zU).2.1.length = u.2.1.length := rfl
    refine ⟨?_, ?_, rfl⟩
    · show u.2.1.length < o'.length
      omega
    · show o'.length ≤ 96
      omega
end zSpec3
