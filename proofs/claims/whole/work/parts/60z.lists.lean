/-! lists -/
section zLists
theorem zgd_left {α : Type} (l l' : List α) (x : α) {k : Nat} (h : k < l.length) : (l ++ l').getD k x = l.getD k x := by
  rw [List.getD_eq_getElem?_getD, List.getD_eq_getElem?_getD, List.getElem?_append_left h]
theorem zgd_right {α : Type} (l l' : List α) (x : α) {k : Nat} (h : l.length ≤ k) : (l ++ l').getD k x = l'.getD (k - l.length) x := by
  rw [List.getD_eq_getElem?_getD, List.getD_eq_getElem?_getD, List.getElem?_append_right h]
theorem zgd_get {α : Type} (l : List α) (x : α) {k : Nat} (h : k < l.length) : l.getD k x = l[k] := by
  rw [List.getD_eq_getElem?_getD, List.getElem?_eq_getElem h] <;> rfl
end zLists
