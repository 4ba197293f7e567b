section zStart3
set_option maxRecDepth 100000 in
set_option maxHeartbeats 4000000 in
theorem zMo_new {l : Launch} {D : va_G} {cA : ClassId} {f : Nat → Nat} {far : Nat → Nat} {p0 : Nat} : zN (l, D, fun _ => 0, cA) 8 Y_Mo_init 0 [.ref p0] [] (zEr cA f ++ [(p0, .inr (11, [.int 0, .null, .int 0, .null, .int 0, .int 0, .int 0, .int 0, .int 0, .null, .null, .null, .null, .null, .null, .int 0, .null, .null, .null, .null, .null, .null, .null, .int 0, .int 0, .int 0, .int 0, .int 0, .int 0, .int 0, .null]))]) 0 0 16 7822 (fun w' => ∃ ad : Nat → Nat, ad 0 = f 0 ∧ ad 68 = p0 ∧ (∀ k, 85 ≤ k → ad k = far k) ∧ w' = zEw cA ad) :=
  n_Mo (d := 7) (i := 68) rfl (fun p1 p2 p3 p4 p5 p6 p7 p8 p9 p10 p11 p12 p13 p14 p15 p16 => ⟨zad f (fun k => [p0, p1, p2, p3, p4, p5, p6, p7, p8, p9, p10, p11, p12, p13, p14, p15, p16].getD k 0) far, rfl, rfl, fun k hk => by unfold zad; rw [if_neg (by omega), if_neg (by omega)], rfl⟩)
end zStart3
