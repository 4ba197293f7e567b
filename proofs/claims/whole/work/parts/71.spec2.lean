/-! a description that is read gives a full code -/
section zSpec2
theorem zks_app {l : List (Nat × Nat)} {s b : Nat} : zks (l ++ [(s, b)]) = zks l + 64 / 2 ^ b := by
  unfold zks
  rw [List.map_append, List.sum_append]
  simp
theorem znd_app {l : List (Nat × Nat)} {s b : Nat} (h : (l.map Prod.fst).Nodup) (hs : s ∉ l.map Prod.fst) : ((l ++ [(s, b)]).map Prod.fst).Nodup := by
  rw [List.map_append, List.map_cons, List.map_nil]
  rw [List.nodup_append]
  exact ⟨h, by simp, fun a ha b hb => by
    rw [List.mem_singleton] at hb
    subst hb
    exact fun e => hs (by rw [← e]; exact ha)⟩
theorem zrdFull_good {f : Nat → Int32} {N S : Nat} {r : List (Nat × Nat)} {P' : Nat} : ∀ (u space sym P : Nat) (l : List (Nat × Nat)), zrdFull f N S u space sym P l = some (r, P') → (l.map Prod.fst).Nodup → (∀ p ∈ l, p.1 < sym ∧ p.1 < S ∧ 1 ≤ p.2 ∧ p.2 ≤ 6) → zks l + space = 64 → (r.map Prod.fst).Nodup ∧ (∀ p ∈ r, p.1 < S ∧ 1 ≤ p.2 ∧ p.2 ≤ 6) ∧ zks r = 64 := by
  intro u
  induction u with
  | zero => intro space sym P l h; cases h
  | succ u ih =>
    intro space sym P l h hn hl hk
    unfold zrdFull at h
    by_cases h1 : S ≤ sym ∨ space = 0
    · rw [if_pos h1] at h
      by_cases h2 : space = 0
      · rw [if_pos h2] at h
        cases h
        exact ⟨hn, fun p hp => ⟨(hl p hp).2.1, (hl p hp).2.2⟩, by omega⟩
      · rw [if_neg h2] at h
        cases h
    · rw [if_neg h1] at h
      cases hz : zrd f N P 3 with
      | none => rw [hz] at h; cases h
      | some q =>
        obtain ⟨b, P1⟩ := q
        have hb8 : b < 8 := (zrd_some hz).2.2.2
        rw [hz] at h
        have h : (if b = 7 then (match zrd f N P1 4 with | none => none | some (v, P2) => zrdFull f N S u space (sym + (v + 3)) P2 l) else if b = 0 then zrdFull f N S u space (sym + 1) P1 l else if space < 64 / 2 ^ b then none else zrdFull f N S u (space - 64 / 2 ^ b) (sym + 1) P1 (l ++ [(sym, b)])) = some (r, P') := h
        by_cases h7 : b = 7
        · rw [if_pos h7] at h
          cases hz2 : zrd f N P1 4 with
          | none => rw [hz2] at h; cases h
          | some q2 =>
            obtain ⟨v, P2⟩ := q2
            rw [hz2] at h
            exact ih _ _ _ _ h hn (fun p hp => ⟨by have := (hl p hp).1; omega, (hl p hp).2⟩) hk
        · rw [if_neg h7] at h
          by_cases h0 : b = 0
          · rw [if_pos h0] at h
            exact ih _ _ _ _ h hn (fun p hp => ⟨by have := (hl p hp).1; omega, (hl p hp).2⟩) hk
          · rw [if_neg h0] at h
            by_cases h64 : space < 64 / 2 ^ b
            · rw [if_pos h64] at h
              cases h
            · rw [if_neg h64] at h
              refine ih _ _ _ _ h (znd_app hn (fun z => ?_)) (fun p hp => ?_) (by rw [zks_app]; omega)
              · obtain ⟨p, hp, e⟩ := List.mem_map.mp z
                have := (hl p hp).1
                omega
              · rcases List.mem_append.mp hp with hp | hp
                · exact ⟨by have := (hl p hp).1; omega, (hl p hp).2⟩
                · rw [List.mem_singleton] at hp
                  subst hp
                  exact ⟨Nat.lt_succ_self _, by show sym < S; omega, by show 1 ≤ b; omega, by show b ≤ 6; omega⟩
theorem zrdSimple_good {f : Nat → Int32} {N S nb kinds : Nat} {r : List (Nat × Nat)} {P' : Nat} : ∀ (n P : Nat) (l : List (Nat × Nat)), zrdSimple f N S nb kinds n P l = some (r, P') → l.length + n = kinds → (l.map Prod.fst).Nodup → (∀ p ∈ l, p.1 < S ∧ (p.2 = zsb kinds true ∨ p.2 = zsb kinds false)) → zks l = (if l.length = 0 then 0 else 64 / 2 ^ zsb kinds true + (l.length - 1) * (64 / 2 ^ zsb kinds false)) → r.length = kinds ∧ (r.map Prod.fst).Nodup ∧ (∀ p ∈ r, p.1 < S ∧ (p.2 = zsb kinds true ∨ p.2 = zsb kinds false)) ∧ zks r = (if kinds = 0 then 0 else 64 / 2 ^ zsb kinds true + (kinds - 1) * (64 / 2 ^ zsb kinds false)) := by
  intro n
  induction n with
  | zero =>
    intro P l h hk hn hl hs
    unfold zrdSimple at h
    cases h
    have e : r.length = kinds := by omega
    rw [e] at hs
    exact ⟨e, hn, hl, hs⟩
  | succ n ih =>
    intro P l h hk hn hl hs
    unfold zrdSimple at h
    cases hz : zrd f N P nb with
    | none => rw [hz] at h; cases h
    | some q =>
      obtain ⟨s, P1⟩ := q
      rw [hz] at h
      have h : (if S ≤ s ∨ s ∈ l.map Prod.fst then none else zrdSimple f N S nb kinds n P1 (l ++ [(s, zsb kinds (decide (n + 1 = kinds)))])) = some (r, P') := h
      by_cases h1 : S ≤ s ∨ s ∈ l.map Prod.fst
      · rw [if_pos h1] at h
        cases h
      · rw [if_neg h1] at h
        refine ih _ _ h (by rw [List.length_append, List.length_singleton]; omega) (znd_app hn (fun z => h1 (Or.inr z))) (fun p hp => ?_) ?_
        · rcases List.mem_append.mp hp with hp | hp
          · exact hl p hp
          · rw [List.mem_singleton] at hp
            subst hp
            refine ⟨by show s < S; omega, ?_⟩
            show zsb kinds (decide (n + 1 = kinds)) = _ ∨ zsb kinds (decide (n + 1 = kinds)) = _
            cases decide (n + 1 = kinds)
            · exact Or.inr rfl
            · exact Or.inl rfl
        · rw [zks_app, hs, List.length_append, List.length_singleton]
          rw [if_neg (show ¬ l.length + 1 = 0 by omega)]
          by_cases h0 : l.length = 0
          · rw [if_pos h0, show decide (n + 1 = kinds) = true from decide_eq_true (by omega), h0]
            omega
          · rw [if_neg h0, show decide (n + 1 = kinds) = false from decide_eq_false (by omega)]
            obtain ⟨j, hj⟩ : ∃ j, l.length = j + 1 := ⟨l.length - 1, by omega⟩
            rw [hj, Nat.add_sub_cancel, Nat.add_sub_cancel, Nat.add_mul, Nat.one_mul]
            omega
theorem zgood_of {f : Nat → Int32} {N S nb P P' : Nat} {l : List (Nat × Nat)} (h : zrdCode f N S nb P = some (l, P')) : zGood S l := by
  unfold zrdCode at h
  cases hz : zrd f N P 1 with
  | none => rw [hz] at h; cases h
  | some q =>
    obtain ⟨v, P1⟩ := q
    rw [hz] at h
    have h : (if v = 1 then (match zrd f N P1 2 with | none => none | some (k, P2) => zrdSimple f N S nb (k + 1) (k + 1) P2 []) else zrdFull f N S (S + 1) 64 0 P1 []) = some (l, P') := h
    by_cases h1 : v = 1
    · rw [if_pos h1] at h
      cases hz2 : zrd f N P1 2 with
      | none => rw [hz2] at h; cases h
      | some q2 =>
        obtain ⟨k, P2⟩ := q2
        have hk4 : k < 4 := (zrd_some hz2).2.2.2
        rw [hz2] at h
        obtain ⟨h2, h3, h4, h5⟩ := zrdSimple_good (k + 1) P2 [] h (by simp) List.nodup_nil (fun p hp => by cases hp) rfl
        rw [if_neg (by omega), Nat.add_sub_cancel] at h5
        have key : ∀ k : Fin 4, ((zsb (k.val + 1) true ≤ 6 ∧ zsb (k.val + 1) false ≤ 6) ∧ (k.val = 0 → zsb (k.val + 1) true = 0 ∧ zsb (k.val + 1) false = 0)) ∧ (¬ k.val = 0 → (1 ≤ zsb (k.val + 1) true ∧ 1 ≤ zsb (k.val + 1) false) ∧ 64 / 2 ^ zsb (k.val + 1) true + k.val * (64 / 2 ^ zsb (k.val + 1) false) = 64) := by decide
        obtain ⟨⟨q1, q2⟩, q3⟩ := key ⟨k, hk4⟩
        refine ⟨fun z => by rw [z] at h2; exact absurd h2 (by simp), h3, fun p hp => ⟨(h4 p hp).1, ?_⟩, fun hl p hp => ?_, fun hl => ⟨fun p hp => ?_, ?_⟩⟩
        · rcases (h4 p hp).2 with e | e <;> rw [e]
          · exact q1.1
          · exact q1.2
        · have hk0 : k = 0 := by omega
          rcases (h4 p hp).2 with e | e <;> rw [e]
          · exact (q2 hk0).1
          · exact (q2 hk0).2
        · have hk0 : ¬ k = 0 := by omega
          rcases (h4 p hp).2 with e | e <;> rw [e]
          · exact (q3 hk0).1.1
          · exact (q3 hk0).1.2
        · rw [h5]
          exact (q3 (show ¬ k = 0 by omega)).2
    · rw [if_neg h1] at h
      obtain ⟨h2, h3, h4⟩ := zrdFull_good (S + 1) 64 0 P1 [] h List.nodup_nil (fun p hp => by cases hp) rfl
      have hle : ∀ b, 1 ≤ b → b ≤ 6 → 64 / 2 ^ b ≤ 32 := by
        intro b z1 z2
        have : ∀ b : Fin 7, 1 ≤ b.val → 64 / 2 ^ b.val ≤ 32 := by decide
        exact this ⟨b, by omega⟩ z1
      have hne1 : ¬ l.length = 1 := by
        intro z
        obtain ⟨p, rfl⟩ := List.length_eq_one_iff.mp z
        have hp := h3 p List.mem_cons_self
        have : zks [p] = 64 / 2 ^ p.2 := by simp [zks]
        have := hle p.2 hp.2.1 hp.2.2
        omega
      refine ⟨fun z => ?_, h2, fun p hp => ⟨(h3 p hp).1, (h3 p hp).2.2⟩, fun z => absurd z hne1, fun _ => ⟨fun p hp => (h3 p hp).2.1, h4⟩⟩
      subst z
      cases h4
end zSpec2
