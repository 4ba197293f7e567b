/-! what a stream's codes say, in pure numbers -/
section zSpec1
/-- the bits of a listed symbol -/
def zwd : List (Nat × Nat) → Nat → Nat
  | [], _ => 0
  | p :: l, s => if p.1 = s then p.2 else zwd l s
def zins (rk : Nat → Nat) (s : Nat) : List Nat → List Nat
  | [] => [s]
  | a :: A => if rk s < rk a then s :: a :: A else a :: zins rk s A
/-- the listed symbols in the order of their code words -/
def zTL (l : List (Nat × Nat)) : List Nat := (l.map Prod.fst).foldr (zins (zrk (zwd l))) []
def zix : List Nat → Nat → Nat
  | [], _ => 0
  | a :: A, s => if a = s then 0 else zix A s + 1
def zwv (l : List (Nat × Nat)) (s : Nat) : Int32 := zwI (fun t => nI (zwd l t)) (zTL l) (zix (zTL l) s)
def zks (l : List (Nat × Nat)) : Nat := (l.map (fun p => 64 / 2 ^ p.2)).sum
def zGood (S : Nat) (l : List (Nat × Nat)) : Prop := l ≠ [] ∧ (l.map Prod.fst).Nodup ∧ (∀ p ∈ l, p.1 < S ∧ p.2 ≤ 6) ∧ (l.length = 1 → ∀ p ∈ l, p.2 = 0) ∧ (¬ l.length = 1 → (∀ p ∈ l, 1 ≤ p.2) ∧ zks l = 64)
theorem zwd_in : ∀ {l : List (Nat × Nat)} {p : Nat × Nat}, (l.map Prod.fst).Nodup → p ∈ l → zwd l p.1 = p.2 := by
  intro l
  induction l with
  | nil => intro p _ h; cases h
  | cons a l ih =>
    intro p hn hp
    rw [List.map_cons, List.nodup_cons] at hn
    show (if a.1 = p.1 then a.2 else zwd l p.1) = p.2
    rcases List.mem_cons.mp hp with rfl | hp
    · exact if_pos rfl
    · rw [if_neg (fun z => hn.1 (by rw [z]; exact List.mem_map_of_mem hp))]
      exact ih hn.2 hp
theorem zwd_out : ∀ {l : List (Nat × Nat)} {s : Nat}, s ∉ l.map Prod.fst → zwd l s = 0 := by
  intro l
  induction l with
  | nil => intro s _; rfl
  | cons a l ih =>
    intro s hs
    rw [List.map_cons, List.mem_cons, not_or] at hs
    show (if a.1 = s then a.2 else zwd l s) = 0
    rw [if_neg (fun z => hs.1 z.symm)]
    exact ih hs.2
theorem zwd_le {n : Nat} : ∀ {l : List (Nat × Nat)} {s : Nat}, (∀ p ∈ l, p.2 ≤ n) → zwd l s ≤ n := by
  intro l
  induction l with
  | nil => intro s _; exact Nat.zero_le _
  | cons a l ih =>
    intro s h
    show (if a.1 = s then a.2 else zwd l s) ≤ n
    split
    · exact h a List.mem_cons_self
    · exact ih (fun p hp => h p (List.mem_cons_of_mem _ hp))
theorem zins_perm (rk : Nat → Nat) (s : Nat) : ∀ A : List Nat, (zins rk s A).Perm (s :: A) := by
  intro A
  induction A with
  | nil => exact List.Perm.refl _
  | cons a A ih =>
    show (if rk s < rk a then s :: a :: A else a :: zins rk s A).Perm (s :: a :: A)
    split
    · exact List.Perm.refl _
    · exact (List.Perm.cons a ih).trans (List.Perm.swap s a A)
theorem zins_pair (rk : Nat → Nat) (s : Nat) : ∀ A : List Nat, A.Pairwise (fun a b => rk a < rk b) → (∀ a ∈ A, rk a ≠ rk s) → (zins rk s A).Pairwise (fun a b => rk a < rk b) := by
  intro A
  induction A with
  | nil => intro _ _; exact List.pairwise_singleton _ _
  | cons a A ih =>
    intro hp hne
    have hp' := hp
    rw [List.pairwise_cons] at hp
    show (if rk s < rk a then s :: a :: A else a :: zins rk s A).Pairwise (fun a b => rk a < rk b)
    split
    · rename_i hlt
      rw [List.pairwise_cons]
      refine ⟨fun b hb => ?_, hp'⟩
      rcases List.mem_cons.mp hb with rfl | hb
      · exact hlt
      · exact Nat.lt_trans hlt (hp.1 b hb)
    · rename_i hlt
      rw [List.pairwise_cons]
      refine ⟨fun b hb => ?_, ih hp.2 (fun x hx => hne x (List.mem_cons_of_mem _ hx))⟩
      rcases List.mem_cons.mp ((zins_perm rk s A).mem_iff.mp hb) with rfl | hb
      · have := hne a List.mem_cons_self
        omega
      · exact hp.1 b hb
theorem zfold_perm (rk : Nat → Nat) : ∀ A : List Nat, (A.foldr (zins rk) []).Perm A := by
  intro A
  induction A with
  | nil => exact List.Perm.refl _
  | cons a A ih => exact (zins_perm rk a _).trans (List.Perm.cons a ih)
theorem zfold_pair (rk : Nat → Nat) : ∀ A : List Nat, A.Nodup → (∀ a ∈ A, ∀ b ∈ A, rk a = rk b → a = b) → (A.foldr (zins rk) []).Pairwise (fun a b => rk a < rk b) := by
  intro A
  induction A with
  | nil => intro _ _; exact List.Pairwise.nil
  | cons a A ih =>
    intro hn hi
    rw [List.nodup_cons] at hn
    refine zins_pair rk a _ (ih hn.2 (fun x hx y hy => hi x (List.mem_cons_of_mem _ hx) y (List.mem_cons_of_mem _ hy))) (fun x hx e => ?_)
    have hx' := (zfold_perm rk A).mem_iff.mp hx
    exact hn.1 (by rw [← hi x (List.mem_cons_of_mem _ hx') a List.mem_cons_self e]; exact hx')
theorem zTL_perm (l : List (Nat × Nat)) : (zTL l).Perm (l.map Prod.fst) := zfold_perm _ _
theorem zTL_pair {l : List (Nat × Nat)} (hn : (l.map Prod.fst).Nodup) (h : ∀ p ∈ l, p.1 < 256) : (zTL l).Pairwise (fun a b => zrk (zwd l) a < zrk (zwd l) b) := by
  refine zfold_pair _ _ hn (fun a ha b hb e => ?_)
  obtain ⟨p, hp, rfl⟩ := List.mem_map.mp ha
  obtain ⟨q, hq, rfl⟩ := List.mem_map.mp hb
  exact zrk_inj (h p hp) (h q hq) e
theorem zuniq (rk : Nat → Nat) : ∀ L L' : List Nat, L.Perm L' → L.Pairwise (fun a b => rk a < rk b) → L'.Pairwise (fun a b => rk a < rk b) → L = L' := by
  intro L
  induction L with
  | nil => intro L' hp _ _; exact (List.Perm.nil_eq hp)
  | cons a A ih =>
    intro L' hp h1 h2
    cases L' with
    | nil => exact absurd hp.length_eq (by simp)
    | cons b B =>
      have h1' := List.pairwise_cons.mp h1
      have h2' := List.pairwise_cons.mp h2
      have ha : a ∈ b :: B := hp.mem_iff.mp List.mem_cons_self
      have hb : b ∈ a :: A := hp.mem_iff.mpr List.mem_cons_self
      have e : a = b := by
        rcases List.mem_cons.mp ha with h | h
        · exact h
        · rcases List.mem_cons.mp hb with h' | h'
          · exact h'.symm
          · exact absurd (h1'.1 b h') (Nat.not_lt.mpr (Nat.le_of_lt (h2'.1 a h)))
      subst e
      rw [ih B (List.Perm.cons_inv hp) h1'.2 h2'.2]
theorem zL_eq {l : List (Nat × Nat)} {L : List Nat} {wd : Nat → Nat} (hn : (l.map Prod.fst).Nodup) (h : ∀ p ∈ l, p.1 < 256) (hp : L.Perm (l.map Prod.fst)) (hs : L.Pairwise (fun a b => zrk wd a < zrk wd b)) (hw : ∀ s ∈ L, wd s = zwd l s) : L = zTL l := by
  refine zuniq (zrk (zwd l)) L (zTL l) (hp.trans (zTL_perm l).symm) ?_ (zTL_pair hn h)
  refine List.Pairwise.imp_of_mem (fun {a b} ha hb hab => ?_) hs
  unfold zrk at hab ⊢
  rw [← hw a ha, ← hw b hb]
  exact hab
theorem zfind_congr {p q : Nat → Bool} : ∀ {L : List Nat}, (∀ s ∈ L, p s = q s) → L.find? p = L.find? q := by
  intro L
  induction L with
  | nil => intro _; rfl
  | cons a A ih =>
    intro h
    rw [List.find?_cons, List.find?_cons, h a List.mem_cons_self, ih (fun s hs => h s (List.mem_cons_of_mem _ hs))]
theorem zsy_congr {f : Nat → Int32} {N : Nat} {L : List Nat} {wd wd' : Nat → Nat} {wv wv' : Nat → Int32} (hd : ∀ s ∈ L, wd s = wd' s) (hv : ∀ s ∈ L, wv s = wv' s) : ∀ (r b : Nat) (w : Int32) (P : Nat), zsy f N L wd wv r b w P = zsy f N L wd' wv' r b w P := by
  intro r
  induction r with
  | zero => intro b w P; rfl
  | succ r ih =>
    intro b w P
    unfold zsy
    cases hz : zrd f N P 1 with
    | none => rfl
    | some q =>
      obtain ⟨v, P1⟩ := q
      have e : L.find? (fun s => decide (wd s = b ∧ wv s = 2 * w + nI v)) = L.find? (fun s => decide (wd' s = b ∧ wv' s = 2 * w + nI v)) := zfind_congr (fun s hs => by rw [hd s hs, hv s hs])
      show (match L.find? (fun s => decide (wd s = b ∧ wv s = 2 * w + nI v)) with | some s => some (nI s, P1) | none => zsy f N L wd wv r (b + 1) (2 * w + nI v) P1) = (match L.find? (fun s => decide (wd' s = b ∧ wv' s = 2 * w + nI v)) with | some s => some (nI s, P1) | none => zsy f N L wd' wv' r (b + 1) (2 * w + nI v) P1)
      rw [e, ih]
theorem zrdSym_congr {f : Nat → Int32} {N P : Nat} {L : List Nat} {wd wd' : Nat → Nat} {wv wv' : Nat → Int32} (hd : ∀ s ∈ L, wd s = wd' s) (hv : ∀ s ∈ L, wv s = wv' s) : zrdSym f N L wd wv P = zrdSym f N L wd' wv' P := by
  unfold zrdSym
  rw [zsy_congr hd hv]
theorem zwI_congr {g g' : Nat → Int32} {L : List Nat} (h : ∀ s ∈ L, g s = g' s) : ∀ k, k < L.length → zwI g L k = zwI g' L k := by
  intro k
  induction k with
  | zero => intro _; rfl
  | succ k ih =>
    intro hk
    show (zwI g L k + 1) <<< ((g (L.getD (k + 1) 0) - g (L.getD k 0)) &&& 31) = (zwI g' L k + 1) <<< ((g' (L.getD (k + 1) 0) - g' (L.getD k 0)) &&& 31)
    rw [ih (by omega), h _ (zget_mem hk), h _ (zget_mem (show k < L.length by omega))]
theorem zix_get : ∀ {L : List Nat} {k : Nat}, L.Nodup → k < L.length → zix L (L.getD k 0) = k := by
  intro L
  induction L with
  | nil => intro k _ h; exact absurd h (Nat.not_lt_zero k)
  | cons a A ih =>
    intro k hn hk
    rw [List.nodup_cons] at hn
    cases k with
    | zero => exact if_pos rfl
    | succ k =>
      have hk' : k < A.length := Nat.lt_of_succ_lt_succ hk
      show (if a = A.getD k 0 then 0 else zix A (A.getD k 0) + 1) = k + 1
      rw [if_neg (fun z => hn.1 (by rw [z]; exact zget_mem hk')), ih hn.2 hk']
theorem zget_ix {L : List Nat} {s : Nat} (h : s ∈ L) : ∃ k, k < L.length ∧ L.getD k 0 = s := by
  obtain ⟨k, hk, e⟩ := List.mem_iff_getElem.mp h
  exact ⟨k, hk, by rw [← e]; simp [hk]⟩
/-! a full code: every six bits hold a word -/
def zsm (wd : Nat → Nat) (L : List Nat) (k : Nat) : Nat := ((L.take k).map (fun s => 64 / 2 ^ wd s)).sum
theorem zsm_succ {wd : Nat → Nat} {L : List Nat} {k : Nat} (hk : k < L.length) : zsm wd L (k + 1) = zsm wd L k + 64 / 2 ^ wd (L.getD k 0) := by
  unfold zsm
  have e : L[k]? = some (L.getD k 0) := by
    rw [List.getD_eq_getElem?_getD, List.getElem?_eq_getElem hk] <;> rfl
  rw [List.take_add_one, List.map_append, List.sum_append, e]
  simp
theorem zsm_at {wd : Nat → Nat} {L : List Nat} {x : Nat} : ∀ n, n ≤ L.length → x < zsm wd L n → ∃ i, i < n ∧ zsm wd L i ≤ x ∧ x < zsm wd L i + 64 / 2 ^ wd (L.getD i 0) := by
  intro n
  induction n with
  | zero => intro _ h; exact absurd h (Nat.not_lt_zero x)
  | succ n ih =>
    intro hn h
    rcases Nat.lt_or_ge x (zsm wd L n) with q | q
    · obtain ⟨i, h1, h2⟩ := ih (by omega) q
      exact ⟨i, by omega, h2⟩
    · exact ⟨n, by omega, q, by rw [← zsm_succ (by omega)]; exact h⟩
theorem zw64 : ∀ a : Fin 7, ∀ b : Fin 7, a.val ≤ b.val → 64 / 2 ^ a.val = 2 ^ (b.val - a.val) * (64 / 2 ^ b.val) ∧ nI b.val - nI a.val = nI (b.val - a.val) := by decide +kernel
theorem zwI_val {wd : Nat → Nat} {L : List Nat} (h6 : ∀ s ∈ L, wd s ≤ 6) (hso : L.Pairwise (fun a b => wd a ≤ wd b)) (ht : zsm wd L L.length ≤ 64) : ∀ k, k < L.length → ∃ C, zwI (fun t => nI (wd t)) L k = nI C ∧ C * (64 / 2 ^ wd (L.getD k 0)) = zsm wd L k := by
  intro k
  induction k with
  | zero => intro _; exact ⟨0, rfl, by rw [Nat.zero_mul]; rfl⟩
  | succ k ih =>
    intro hk
    obtain ⟨C, e1, e2⟩ := ih (by omega)
    have hk' : k < L.length := by omega
    have hle : wd (L.getD k 0) ≤ wd (L.getD (k + 1) 0) := by
      have h := List.pairwise_iff_getElem.mp hso k (k + 1) hk' hk (by omega)
      simpa [List.getD_eq_getElem?_getD, hk, hk'] using h
    have hb := h6 _ (zget_mem hk)
    have ha := h6 _ (zget_mem hk')
    have hsm : zsm wd L (k + 1) ≤ 64 := by
      have mono : ∀ n, n ≤ L.length → k + 1 ≤ n → zsm wd L (k + 1) ≤ zsm wd L n := by
        intro n
        induction n with
        | zero => intro _ h; omega
        | succ n ihn =>
          intro hn h
          rcases Nat.lt_or_ge n (k + 1) with q | q
          · rw [show n + 1 = k + 1 by omega]
            exact Nat.le_refl _
          · rw [zsm_succ (show n < L.length by omega)]
            exact Nat.le_trans (ihn (by omega) q) (Nat.le_add_right _ _)
      exact Nat.le_trans (mono L.length (Nat.le_refl _) (by omega)) ht
    generalize hwa : wd (L.getD k 0) = wa at *
    generalize hwb : wd (L.getD (k + 1) 0) = wb at *
    obtain ⟨z1, z2⟩ := zw64 ⟨wa, by omega⟩ ⟨wb, by omega⟩ hle
    have z1 : 64 / 2 ^ wa = 2 ^ (wb - wa) * (64 / 2 ^ wb) := z1
    have z2 : nI wb - nI wa = nI (wb - wa) := z2
    have hs1 : zsm wd L (k + 1) = (C + 1) * 2 ^ (wb - wa) * (64 / 2 ^ wb) := by
      rw [zsm_succ hk', hwa, ← e2, Nat.mul_assoc, ← z1, Nat.add_mul, Nat.one_mul]
    have hpos : 1 ≤ 64 / 2 ^ wb := by
      have : ∀ b : Fin 7, 1 ≤ 64 / 2 ^ b.val := by decide
      exact this ⟨wb, by omega⟩
    have hC : (C + 1) * 2 ^ (wb - wa) ≤ 64 := by
      rw [hs1] at hsm
      exact Nat.le_trans (Nat.le_mul_of_pos_right _ hpos) hsm
    refine ⟨(C + 1) * 2 ^ (wb - wa), ?_, hs1.symm⟩
    show (zwI (fun t => nI (wd t)) L k + 1) <<< ((nI (wd (L.getD (k + 1) 0)) - nI (wd (L.getD k 0))) &&& 31) = _
    rw [e1, hwa, hwb, z2, nI_1]
    exact pk_shlN _ _ (zs_l _ (by omega)) (by omega)
theorem zsy_or {f : Nat → Int32} {N : Nat} {L : List Nat} {wd : Nat → Nat} {wv : Nat → Int32} {y : Int32} {P' : Nat} : ∀ (r b p P : Nat), b + r = 7 → zsy f N L wd wv r b (nI p) P = some (y, P') → (∃ s ∈ L, y = nI s) ∨ ∃ x, x / 2 ^ r = p ∧ ∀ b', b ≤ b' → b' ≤ 6 → ∀ s ∈ L, ¬ (wd s = b' ∧ wv s = nI (x / 2 ^ (6 - b'))) := by
  intro r
  induction r with
  | zero => intro b p P hb _; exact Or.inr ⟨p, by simp, fun b' h1 h2 => by omega⟩
  | succ r ih =>
    intro b p P hb h
    unfold zsy at h
    cases hz : zrd f N P 1 with
    | none => rw [hz] at h; cases h
    | some q =>
      obtain ⟨v, P1⟩ := q
      rw [hz] at h
      have hv : v < 2 := (zrd_some hz).2.2.2
      have ew : (2 : Int32) * nI p + nI v = nI (2 * p + v) := by
        rw [← nI_add]
        congr 1
        exact (Int32.ofNat_mul 2 p).symm
      have h : (match L.find? (fun s => decide (wd s = b ∧ wv s = 2 * nI p + nI v)) with | some s => some (nI s, P1) | none => zsy f N L wd wv r (b + 1) (2 * nI p + nI v) P1) = some (y, P') := h
      rw [ew] at h
      cases hf : L.find? (fun s => decide (wd s = b ∧ wv s = nI (2 * p + v))) with
      | some s =>
        rw [hf] at h
        have h : some (nI s, P1) = some (y, P') := h
        cases h
        exact Or.inl ⟨s, List.mem_of_find?_eq_some hf, rfl⟩
      | none =>
        rw [hf] at h
        rcases ih (b + 1) (2 * p + v) P1 (by omega) h with h1 | ⟨x, hx, h1⟩
        · exact Or.inl h1
        · refine Or.inr ⟨x, ?_, fun b' q1 q2 s hs => ?_⟩
          · rw [Nat.pow_succ, ← Nat.div_div_eq_div_mul, hx]
            omega
          · rcases Nat.lt_or_ge b b' with q | q
            · exact h1 b' q q2 s hs
            · have e : b' = b := by omega
              subst e
              have h2 := List.find?_eq_none.mp hf s hs
              rw [show 6 - b' = r by omega, hx]
              exact fun z => h2 (decide_eq_true z)
theorem zperm_sum {g : Nat → Nat} {A B : List Nat} (h : A.Perm B) : (A.map g).sum = (B.map g).sum := by
  induction h with
  | nil => rfl
  | cons a _ ih => simp only [List.map_cons, List.sum_cons]; rw [ih]
  | swap a b l => simp only [List.map_cons, List.sum_cons]; omega
  | trans _ _ ih1 ih2 => exact ih1.trans ih2
theorem zks_sum {l : List (Nat × Nat)} (hn : (l.map Prod.fst).Nodup) : ((l.map Prod.fst).map (fun s => 64 / 2 ^ zwd l s)).sum = zks l := by
  unfold zks
  rw [List.map_map]
  congr 1
  refine List.map_congr_left (fun p hp => ?_)
  show 64 / 2 ^ zwd l p.1 = 64 / 2 ^ p.2
  rw [zwd_in hn hp]
theorem zfull {f : Nat → Int32} {N S P : Nat} {l : List (Nat × Nat)} {y : Int32} {P' : Nat} (hS : S ≤ 256) (hg : zGood S l) (h : zrdSym f N (zTL l) (zwd l) (zwv l) P = some (y, P')) : ∃ s ∈ zTL l, y = nI s := by
  obtain ⟨h0, hn, hb, h1, h2⟩ := hg
  have hlen : (zTL l).length = l.length := by rw [(zTL_perm l).length_eq, List.length_map]
  have h256 : ∀ p ∈ l, p.1 < 256 := fun p hp => Nat.lt_of_lt_of_le (hb p hp).1 hS
  unfold zrdSym at h
  by_cases hl : (zTL l).length = 1
  · rw [if_pos hl] at h
    cases h
    exact ⟨_, zget_mem (by omega), rfl⟩
  · rw [if_neg hl] at h
    obtain ⟨h3, h4⟩ := h2 (by rw [← hlen]; exact hl)
    rcases zsy_or 6 1 0 P rfl h with h5 | ⟨x, hx, h5⟩
    · exact h5
    · exfalso
      have hm : ∀ s ∈ zTL l, 1 ≤ zwd l s ∧ zwd l s ≤ 6 ∧ s < 256 := by
        intro s hs
        obtain ⟨p, hp, rfl⟩ := List.mem_map.mp ((zTL_perm l).mem_iff.mp hs)
        rw [zwd_in hn hp]
        exact ⟨h3 p hp, (hb p hp).2, h256 p hp⟩
      have hso : (zTL l).Pairwise (fun a b => zwd l a ≤ zwd l b) := by
        refine List.Pairwise.imp_of_mem (fun {a b} ha hb hab => ?_) (zTL_pair hn h256)
        unfold zrk at hab
        have := (hm a ha).2.2
        have := (hm b hb).2.2
        omega
      have ht : zsm (zwd l) (zTL l) (zTL l).length = 64 := by
        unfold zsm
        rw [List.take_length, zperm_sum (zTL_perm l), zks_sum hn]
        exact h4
      have hx64 : x < 64 := by omega
      obtain ⟨i, hi, q1, q2⟩ := zsm_at (wd := zwd l) (L := zTL l) (x := x) (zTL l).length (Nat.le_refl _) (by rw [ht]; exact hx64)
      obtain ⟨C, e1, e2⟩ := zwI_val (fun s hs => (hm s hs).2.1) hso (by omega) i hi
      obtain ⟨m1, m2, -⟩ := hm _ (zget_mem hi)
      refine h5 (zwd l ((zTL l).getD i 0)) m1 m2 _ (zget_mem hi) ⟨rfl, ?_⟩
      have hnd : (zTL l).Nodup := (zTL_perm l).nodup_iff.mpr hn
      show zwI (fun t => nI (zwd l t)) (zTL l) (zix (zTL l) ((zTL l).getD i 0)) = _
      rw [zix_get hnd hi, e1]
      congr 1
      have hpw : 64 / 2 ^ zwd l ((zTL l).getD i 0) = 2 ^ (6 - zwd l ((zTL l).getD i 0)) := by
        have : ∀ b : Fin 7, 64 / 2 ^ b.val = 2 ^ (6 - b.val) := by decide
        exact this ⟨_, by omega⟩
      rw [hpw] at e2 q2
      rw [← e2] at q1 q2
      symm
      refine Nat.div_eq_of_lt_le q1 ?_
      rw [Nat.add_mul, Nat.one_mul]
      exact q2
/-- a code word of the described code -/
def zrs (f : Nat → Int32) (N : Nat) (l : List (Nat × Nat)) (P : Nat) : Option (Nat × Nat) := match zrdSym f N (zTL l) (zwd l) (zwv l) P with
  | none => none
  | some (y, P') => some (y.toNatClampNeg, P')
end zSpec1
