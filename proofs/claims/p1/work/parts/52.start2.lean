section zStart2
set_option maxRecDepth 100000 in
set_option maxHeartbeats 4000000 in
theorem zRp_new {l : Launch} {D : va_G} {cA : ClassId} {q0 : Nat} : zN (l, D, fun _ => 0, cA) 8 Y_Rp_init 0 [.ref q0] [] [(q0, .inr (10, [.null, .null, .null, .null, .null]))] 0 0 67 4664 (fun w' => ∃ f : Nat → Nat, f 0 = q0 ∧ w' = zEr cA f) :=
  n_Rp (d := 4) (i := 0) rfl (fun q1 q2 q3 q4 q5 q6 q7 q8 q9 q10 q11 q12 q13 q14 q15 q16 q17 q18 q19 q20 q21 q22 q23 q24 q25 q26 q27 q28 q29 q30 q31 q32 q33 q34 q35 q36 q37 q38 q39 q40 q41 q42 q43 q44 q45 q46 q47 q48 q49 q50 q51 q52 q53 q54 q55 q56 q57 q58 q59 q60 q61 q62 q63 q64 q65 q66 q67 => ⟨fun k => [q0, q1, q2, q3, q4, q5, q6, q7, q8, q9, q10, q11, q12, q13, q14, q15, q16, q17, q18, q19, q20, q21, q22, q23, q24, q25, q26, q27, q28, q29, q30, q31, q32, q33, q34, q35, q36, q37, q38, q39, q40, q41, q42, q43, q44, q45, q46, q47, q48, q49, q50, q51, q52, q53, q54, q55, q56, q57, q58, q59, q60, q61, q62, q63, q64, q65, q66, q67].getD k 0, rfl, rfl⟩)
end zStart2
