/-! the words' texts at the law's entry -/
section zStrings
set_option maxRecDepth 100000 in
set_option maxHeartbeats 4000000 in
theorem zSs {s : State} {b : Nat} (hts : ∀ w ∈ lw_tbl, w.before #[Value.ref b] s = true) (hgv : (Jvm.Cond.and given_1 narrow_1).before #[Value.ref b] s = true) : ∃ (adK adV : Nat → Nat), vk_R "RingPacker$Words" 9 "thatwithfromhave" (adK 0) s ∧ vk_R "RingPacker$Words" 11 "whichtheretheirabout" (adK 1) s ∧ vk_S 2 zSL zSB adK adV (fun q => s.heap.size ≤ q) s s.heap ∧ va_Z "java/lang/String" "COMPACT_STRINGS" "Z" (.int 1) (fun q => s.heap.size ≤ q) s s.heap ∧ va_Zq "jdk/internal/util/Preconditions" "SIOOBE_FORMATTER" "Ljava/util/function/BiFunction;" (fun q => s.heap.size ≤ q) s s.heap := by
  have hs := flat_of_before _ hgv
  have hN : ∀ i : Nat, i < 2 → zSL.getD i 0 < 2 ^ 31 := by
    intro i hi
    rcases (show i = 0 ∨ i = 1 by omega) with rfl | rfl <;> decide
  obtain ⟨adK, adV, hS, hE⟩ := vk_Sof (args := #[Value.ref b]) (s := s) (N := 2) (tm := fun i => Term.string "RingPacker$Words" ([9, 11].getD i 0)) (len := zSL) (byt := zSB) (A := fun q => s.heap.size ≤ q) hN
    (fun i hi => by
    rcases (show i = 0 ∨ i = 1 by omega) with rfl | rfl
    · exact hs (Cond.exactly (Term.string "RingPacker$Words" 9) "java/lang/String") (by decide +kernel)
    · exact hs (Cond.exactly (Term.string "RingPacker$Words" 11) "java/lang/String") (by decide +kernel))
    (fun i hi => by
    rcases (show i = 0 ∨ i = 1 by omega) with rfl | rfl
    · exact hs (Cond.eq (Term.field (Term.string "RingPacker$Words" 9) "java/lang/String" "coder" "B") (.int 0)) (by decide +kernel)
    · exact hs (Cond.eq (Term.field (Term.string "RingPacker$Words" 11) "java/lang/String" "coder" "B") (.int 0)) (by decide +kernel))
    (fun i hi => by
    rcases (show i = 0 ∨ i = 1 by omega) with rfl | rfl
    · exact hs (Cond.arrayOf (Term.field (Term.string "RingPacker$Words" 9) "java/lang/String" "value" "[B") .byte) (by decide +kernel)
    · exact hs (Cond.arrayOf (Term.field (Term.string "RingPacker$Words" 11) "java/lang/String" "value" "[B") .byte) (by decide +kernel))
    (fun i hi => by
    rcases (show i = 0 ∨ i = 1 by omega) with rfl | rfl
    · exact hs (Cond.eq (Term.length (Term.field (Term.string "RingPacker$Words" 9) "java/lang/String" "value" "[B")) (.int 16)) (by decide +kernel)
    · exact hs (Cond.eq (Term.length (Term.field (Term.string "RingPacker$Words" 11) "java/lang/String" "value" "[B")) (.int 20)) (by decide +kernel))
    (fun i hi j hj => by
      rcases (show i = 0 ∨ i = 1 by omega) with rfl | rfl
      · have hj : j < 16 := hj
        rcases (show j = 0 ∨ j = 1 ∨ j = 2 ∨ j = 3 ∨ j = 4 ∨ j = 5 ∨ j = 6 ∨ j = 7 ∨ j = 8 ∨ j = 9 ∨ j = 10 ∨ j = 11 ∨ j = 12 ∨ j = 13 ∨ j = 14 ∨ j = 15 by omega) with rfl | rfl | rfl | rfl | rfl | rfl | rfl | rfl | rfl | rfl | rfl | rfl | rfl | rfl | rfl | rfl
        · exact hs (Cond.eq (Term.elem (Term.field (Term.string "RingPacker$Words" 9) "java/lang/String" "value" "[B") (.int 0)) (.int 116)) (by decide +kernel)
        · exact hs (Cond.eq (Term.elem (Term.field (Term.string "RingPacker$Words" 9) "java/lang/String" "value" "[B") (.int 1)) (.int 104)) (by decide +kernel)
        · exact hs (Cond.eq (Term.elem (Term.field (Term.string "RingPacker$Words" 9) "java/lang/String" "value" "[B") (.int 2)) (.int 97)) (by decide +kernel)
        · exact hs (Cond.eq (Term.elem (Term.field (Term.string "RingPacker$Words" 9) "java/lang/String" "value" "[B") (.int 3)) (.int 116)) (by decide +kernel)
        · exact hs (Cond.eq (Term.elem (Term.field (Term.string "RingPacker$Words" 9) "java/lang/String" "value" "[B") (.int 4)) (.int 119)) (by decide +kernel)
        · exact hs (Cond.eq (Term.elem (Term.field (Term.string "RingPacker$Words" 9) "java/lang/String" "value" "[B") (.int 5)) (.int 105)) (by decide +kernel)
        · exact hs (Cond.eq (Term.elem (Term.field (Term.string "RingPacker$Words" 9) "java/lang/String" "value" "[B") (.int 6)) (.int 116)) (by decide +kernel)
        · exact hs (Cond.eq (Term.elem (Term.field (Term.string "RingPacker$Words" 9) "java/lang/String" "value" "[B") (.int 7)) (.int 104)) (by decide +kernel)
        · exact hs (Cond.eq (Term.elem (Term.field (Term.string "RingPacker$Words" 9) "java/lang/String" "value" "[B") (.int 8)) (.int 102)) (by decide +kernel)
        · exact hs (Cond.eq (Term.elem (Term.field (Term.string "RingPacker$Words" 9) "java/lang/String" "value" "[B") (.int 9)) (.int 114)) (by decide +kernel)
        · exact hs (Cond.eq (Term.elem (Term.field (Term.string "RingPacker$Words" 9) "java/lang/String" "value" "[B") (.int 10)) (.int 111)) (by decide +kernel)
        · exact hs (Cond.eq (Term.elem (Term.field (Term.string "RingPacker$Words" 9) "java/lang/String" "value" "[B") (.int 11)) (.int 109)) (by decide +kernel)
        · exact hs (Cond.eq (Term.elem (Term.field (Term.string "RingPacker$Words" 9) "java/lang/String" "value" "[B") (.int 12)) (.int 104)) (by decide +kernel)
        · exact hs (Cond.eq (Term.elem (Term.field (Term.string "RingPacker$Words" 9) "java/lang/String" "value" "[B") (.int 13)) (.int 97)) (by decide +kernel)
        · exact hs (Cond.eq (Term.elem (Term.field (Term.string "RingPacker$Words" 9) "java/lang/String" "value" "[B") (.int 14)) (.int 118)) (by decide +kernel)
        · exact hs (Cond.eq (Term.elem (Term.field (Term.string "RingPacker$Words" 9) "java/lang/String" "value" "[B") (.int 15)) (.int 101)) (by decide +kernel)
      · have hj : j < 20 := hj
        rcases (show j = 0 ∨ j = 1 ∨ j = 2 ∨ j = 3 ∨ j = 4 ∨ j = 5 ∨ j = 6 ∨ j = 7 ∨ j = 8 ∨ j = 9 ∨ j = 10 ∨ j = 11 ∨ j = 12 ∨ j = 13 ∨ j = 14 ∨ j = 15 ∨ j = 16 ∨ j = 17 ∨ j = 18 ∨ j = 19 by omega) with rfl | rfl | rfl | rfl | rfl | rfl | rfl | rfl | rfl | rfl | rfl | rfl | rfl | rfl | rfl | rfl | rfl | rfl | rfl | rfl
        · exact hs (Cond.eq (Term.elem (Term.field (Term.string "RingPacker$Words" 11) "java/lang/String" "value" "[B") (.int 0)) (.int 119)) (by decide +kernel)
        · exact hs (Cond.eq (Term.elem (Term.field (Term.string "RingPacker$Words" 11) "java/lang/String" "value" "[B") (.int 1)) (.int 104)) (by decide +kernel)
        · exact hs (Cond.eq (Term.elem (Term.field (Term.string "RingPacker$Words" 11) "java/lang/String" "value" "[B") (.int 2)) (.int 105)) (by decide +kernel)
        · exact hs (Cond.eq (Term.elem (Term.field (Term.string "RingPacker$Words" 11) "java/lang/String" "value" "[B") (.int 3)) (.int 99)) (by decide +kernel)
        · exact hs (Cond.eq (Term.elem (Term.field (Term.string "RingPacker$Words" 11) "java/lang/String" "value" "[B") (.int 4)) (.int 104)) (by decide +kernel)
        · exact hs (Cond.eq (Term.elem (Term.field (Term.string "RingPacker$Words" 11) "java/lang/String" "value" "[B") (.int 5)) (.int 116)) (by decide +kernel)
        · exact hs (Cond.eq (Term.elem (Term.field (Term.string "RingPacker$Words" 11) "java/lang/String" "value" "[B") (.int 6)) (.int 104)) (by decide +kernel)
        · exact hs (Cond.eq (Term.elem (Term.field (Term.string "RingPacker$Words" 11) "java/lang/String" "value" "[B") (.int 7)) (.int 101)) (by decide +kernel)
        · exact hs (Cond.eq (Term.elem (Term.field (Term.string "RingPacker$Words" 11) "java/lang/String" "value" "[B") (.int 8)) (.int 114)) (by decide +kernel)
        · exact hs (Cond.eq (Term.elem (Term.field (Term.string "RingPacker$Words" 11) "java/lang/String" "value" "[B") (.int 9)) (.int 101)) (by decide +kernel)
        · exact hs (Cond.eq (Term.elem (Term.field (Term.string "RingPacker$Words" 11) "java/lang/String" "value" "[B") (.int 10)) (.int 116)) (by decide +kernel)
        · exact hs (Cond.eq (Term.elem (Term.field (Term.string "RingPacker$Words" 11) "java/lang/String" "value" "[B") (.int 11)) (.int 104)) (by decide +kernel)
        · exact hs (Cond.eq (Term.elem (Term.field (Term.string "RingPacker$Words" 11) "java/lang/String" "value" "[B") (.int 12)) (.int 101)) (by decide +kernel)
        · exact hs (Cond.eq (Term.elem (Term.field (Term.string "RingPacker$Words" 11) "java/lang/String" "value" "[B") (.int 13)) (.int 105)) (by decide +kernel)
        · exact hs (Cond.eq (Term.elem (Term.field (Term.string "RingPacker$Words" 11) "java/lang/String" "value" "[B") (.int 14)) (.int 114)) (by decide +kernel)
        · exact hs (Cond.eq (Term.elem (Term.field (Term.string "RingPacker$Words" 11) "java/lang/String" "value" "[B") (.int 15)) (.int 97)) (by decide +kernel)
        · exact hs (Cond.eq (Term.elem (Term.field (Term.string "RingPacker$Words" 11) "java/lang/String" "value" "[B") (.int 16)) (.int 98)) (by decide +kernel)
        · exact hs (Cond.eq (Term.elem (Term.field (Term.string "RingPacker$Words" 11) "java/lang/String" "value" "[B") (.int 17)) (.int 111)) (by decide +kernel)
        · exact hs (Cond.eq (Term.elem (Term.field (Term.string "RingPacker$Words" 11) "java/lang/String" "value" "[B") (.int 18)) (.int 117)) (by decide +kernel)
        · exact hs (Cond.eq (Term.elem (Term.field (Term.string "RingPacker$Words" 11) "java/lang/String" "value" "[B") (.int 19)) (.int 116)) (by decide +kernel)
    )
    (fun i j hi hj hij => by
      have hne := hs (Cond.not (Cond.eq (Term.string "RingPacker$Words" 9) (Term.string "RingPacker$Words" 11))) (by decide +kernel)
      rcases (show i = 0 ∨ i = 1 by omega) with rfl | rfl <;> rcases (show j = 0 ∨ j = 1 by omega) with rfl | rfl
      · exact absurd rfl hij
      · exact Or.inl hne
      · exact Or.inr hne
      · exact absurd rfl hij)
    (fun a h => Nat.not_le.mpr h)
  have hZ := va_Zqof (hts (Cond.laysStatic "jdk/internal/util/Preconditions" "SIOOBE_FORMATTER" "Ljava/util/function/BiFunction;") (List.mem_of_getElem? (i := 479) (by decide +kernel))) (hts (Cond.initialized "jdk/internal/util/Preconditions") (List.mem_of_getElem? (i := 72) (by decide +kernel))) (hs (Cond.isRef (Term.static "jdk/internal/util/Preconditions" "SIOOBE_FORMATTER" "Ljava/util/function/BiFunction;")) (by decide +kernel)) (A := fun q => s.heap.size ≤ q) (fun a h => Nat.not_le.mpr h)
  refine ⟨adK, adV, vk_R.of (hts (Cond.stringRef "RingPacker$Words" 9 "thatwithfromhave") (List.mem_of_getElem? (i := 460) (by decide +kernel))) (hE 0 (by decide)), vk_R.of (hts (Cond.stringRef "RingPacker$Words" 11 "whichtheretheirabout") (List.mem_of_getElem? (i := 461) (by decide +kernel))) (hE 1 (by decide)), hS, va_Zof (hts (Cond.laysStatic "java/lang/String" "COMPACT_STRINGS" "Z") (List.mem_of_getElem? (i := 471) (by decide +kernel))) (hts (Cond.initialized "java/lang/String") (List.mem_of_getElem? (i := 70) (by decide +kernel))) (va_eqt (hs (Cond.eq (Term.static "java/lang/String" "COMPACT_STRINGS" "Z") (.int 1)) (by decide +kernel))) (fun a h => Nat.not_le.mpr h), hZ⟩
end zStrings
