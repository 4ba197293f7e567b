/-! the words known beforehand, on both sides -/
section zWords
variable {κ : zK} {d : Nat} {mem : zM} {Q : Option zV → zM → Prop}
def zyo (m x : Nat) : Nat := if x / 4 = 2 then m + 1 else if x / 4 = 3 then m - 1 else m
def zpl (x k : Nat) : Nat := if x / 4 = 3 then k + 1 else k
def zby (m x k : Nat) : Int32 := if m ≤ zpl x k then 32 else if x / 4 = 1 ∧ zpl x k = 0 then zch (m - 4) (x % 4 * m + zpl x k) - 32 else zch (m - 4) (x % 4 * m + zpl x k)
theorem zx_shr : ∀ x : Fin 16, nI x.val >>> (2 : Int32) = nI (x.val / 4) := by decide +kernel
theorem zx_and : ∀ x : Fin 16, nI x.val &&& 3 = nI (x.val % 4) := by decide +kernel
theorem zx_div : ∀ x : Fin 16, nI x.val / 4 = nI (x.val / 4) := by decide +kernel
theorem zx_mod : ∀ x : Fin 16, nI x.val - nI x.val / 4 * 4 = nI (x.val % 4) := by decide +kernel
theorem zx_mul : ∀ i : Fin 4, ∀ m : Fin 6, nI i.val * nI m.val = nI (i.val * m.val) := by decide +kernel
theorem zyo_le {m x : Nat} : zyo m x ≤ m + 1 := by
  unfold zyo
  split
  · exact Nat.le_refl _
  · split <;> omega
theorem zx_off {m x pl : Nat} (hm : m = 4 ∨ m = 5) (hx : x < 16) : (nI x &&& 3) * nI m + nI pl = nI (x % 4 * m + pl) := by
  rw [zx_and ⟨x, hx⟩, zx_mul ⟨x % 4, by omega⟩ ⟨m, by omega⟩, nI_add]
theorem zx_in {m x pl : Nat} (hm : m = 4 ∨ m = 5) (hx : x < 16) (hp : pl < m) : x % 4 * m + pl < zSL.getD (m - 4) 0 := by
  rcases hm with rfl | rfl
  · show x % 4 * 4 + pl < 16
    omega
  · show x % 4 * 5 + pl < 20
    omega
theorem s_Words_byteOf {m x k : Nat} (hm : m = 4 ∨ m = 5) (hx : x < 16) (hk : k < 7) (hQ : Q (some (.inl (zby m x k))) mem) : zR κ (d + 4) Y_Words_byteOf 0 [some (.inl (nI m)), some (.inl (nI x)), some (.inl (nI k)), none, none, none, none] [] mem Q := by
  refine w_Words_byteOf_0 ?_
  rw [zx_shr ⟨x, hx⟩]
  have hx4 : x / 4 < 4 := by omega
  have key : zR κ (d + 4) Y_Words_byteOf 16 [some (.inl (nI m)), some (.inl (nI x)), some (.inl (nI k)), some (.inl (nI (x / 4))), none, none, none] [.inl (nI (zpl x k))] mem Q := by
    have hpl : zpl x k < 8 := by
      unfold zpl
      split <;> omega
    refine zR_istore d_Words_byteOf_16 (by decide) ?_
    refine zR_iload d_Words_byteOf_18 rfl ?_
    refine zR_iload_n d_Words_byteOf_20 rfl rfl ?_
    refine zR_icmp_lt (tgt := 27) d_Words_byteOf_21 (by decide) (fun h => ?_) (fun h => ?_)
    · have hlt : zpl x k < m := (nI_ltI (by omega) (by omega)).mp h
      have hby : zby m x k = if x / 4 = 1 ∧ zpl x k = 0 then zch (m - 4) (x % 4 * m + zpl x k) - 32 else zch (m - 4) (x % 4 * m + zpl x k) := by
        unfold zby
        rw [if_neg (by omega)]
      have j39 : zR κ (d + 4) Y_Words_byteOf 39 [some (.inl (nI m)), some (.inl (nI x)), some (.inl (nI k)), some (.inl (nI (x / 4))), some (.inl (nI (zpl x k))), none, none] [.inr (2000 + (m - 4))] mem Q := by
        refine zR_astore d_Words_byteOf_39 (by decide) ?_
        refine zR_aload d_Words_byteOf_41 rfl ?_
        refine zR_iload_n d_Words_byteOf_43 rfl rfl ?_
        refine zR_iconst (v := 3) d_Words_byteOf_44 (by decide) ?_
        refine zR_iand d_Words_byteOf_45 ?_
        refine zR_iload_n d_Words_byteOf_46 rfl rfl ?_
        refine zR_imul d_Words_byteOf_47 ?_
        refine zR_iload d_Words_byteOf_48 rfl ?_
        refine zR_iadd d_Words_byteOf_50 ?_
        rw [zx_off hm hx]
        refine zR_callStr (Y' := Y_Str_charAt) (A := [.inl (nI (x % 4 * m + zpl x k))]) (S := []) (i := m - 4) (by omega) v_Str_charAt rfl gs_charAt d_Words_byteOf_51 rfl (by decide) rfl ?_
        refine s_Str_charAt (i := m - 4) (by omega) (zx_in hm hx hlt) ?_
        refine zR_istore d_Words_byteOf_54 (by decide) ?_
        refine zR_iload_n d_Words_byteOf_56 rfl rfl ?_
        refine zR_iconst (v := 1) d_Words_byteOf_57 (by decide) ?_
        refine zR_icmp_ne (tgt := 74) d_Words_byteOf_58 (by decide) (fun h1 => ?_) (fun h1 => ?_)
        · refine zR_iload d_Words_byteOf_74 rfl ?_
          refine zR_ireturn rfl d_Words_byteOf_76 ?_
          rw [hby, if_neg (fun z => h1 (by rw [z.1]; rfl))] at hQ
          exact hQ
        · have h1' : x / 4 = 1 := (nI_eq (by omega) (by decide)).mp h1
          refine zR_iload d_Words_byteOf_61 rfl ?_
          refine zR_if_ne (tgt := 74) d_Words_byteOf_63 (by decide) (fun h2 => ?_) (fun h2 => ?_)
          · refine zR_iload d_Words_byteOf_74 rfl ?_
            refine zR_ireturn rfl d_Words_byteOf_76 ?_
            rw [hby, if_neg (fun z => h2 (by rw [z.2]; rfl))] at hQ
            exact hQ
          · have h2' : zpl x k = 0 := (nI_eq (by omega) (by decide)).mp h2
            refine zR_iload d_Words_byteOf_66 rfl ?_
            refine zR_bipush (v := 32) d_Words_byteOf_68 (by decide) ?_
            refine zR_isub d_Words_byteOf_70 ?_
            refine zR_goto (tgt := 76) d_Words_byteOf_71 (by decide) ?_
            refine zR_ireturn rfl d_Words_byteOf_76 ?_
            rw [hby, if_pos ⟨h1', h2'⟩] at hQ
            exact hQ
      refine zR_iload_n d_Words_byteOf_27 rfl rfl ?_
      refine zR_iconst (v := 4) d_Words_byteOf_28 (by decide) ?_
      refine zR_icmp_ne (tgt := 37) d_Words_byteOf_29 (by decide) (fun h1 => ?_) (fun h1 => ?_)
      · have e5 : m = 5 := by
          rcases hm with rfl | rfl
          · exact absurd rfl h1
          · rfl
        refine zR_ldc5 rfl d_Words_byteOf_37 ?_
        subst e5
        exact j39
      · have e4 : m = 4 := (nI_eq (by omega) (by decide)).mp h1
        refine zR_ldc4 rfl d_Words_byteOf_32 ?_
        refine zR_goto (tgt := 39) d_Words_byteOf_34 (by decide) ?_
        subst e4
        exact j39
    · have hle : m ≤ zpl x k := by
        rcases Nat.lt_or_ge (zpl x k) m with z | z
        · exact absurd (nI_lt z (by omega)) h
        · exact z
      refine zR_bipush (v := 32) d_Words_byteOf_24 (by decide) ?_
      refine zR_ireturn rfl d_Words_byteOf_26 ?_
      unfold zby at hQ
      rw [if_pos hle] at hQ
      exact hQ
  refine ⟨fun h => ?_, fun h => ?_⟩
  · have e : zpl x k = k := if_neg (fun z => h (by rw [z]; rfl))
    rw [e] at key
    exact key
  · have e : zpl x k = k + 1 := if_pos ((nI_eq (by omega) (by decide)).mp h)
    rw [e, nI_succ] at key
    exact key
theorem s_Words_yieldOf {m x : Nat} (hm : m = 4 ∨ m = 5) (hx : x < 16) (hQ : Q (some (.inl (nI (zyo m x)))) mem) : zR κ d Y_Words_yieldOf 0 [some (.inl (nI m)), some (.inl (nI x)), none] [] mem Q := by
  refine w_Words_yieldOf_0 ?_
  rw [zx_shr ⟨x, hx⟩]
  unfold zyo at hQ
  refine ⟨fun h => ?_, fun h => ?_⟩
  · rw [if_neg (fun z => h (by rw [z]; rfl))] at hQ
    refine ⟨fun h3 => ?_, fun h3 => ?_⟩
    · rw [if_neg (fun z => h3 (by rw [z]; rfl))] at hQ
      exact hQ
    · rw [if_pos ((nI_eq (by omega) (by decide)).mp h3)] at hQ
      rcases hm with rfl | rfl <;> exact hQ
  · rw [if_pos ((nI_eq (by omega) (by decide)).mp h), nI_succ] at hQ
    exact hQ
theorem s_Mo_bytesOf {m x : Nat} (hm : m = 4 ∨ m = 5) (hx : x < 16) (hQ : Q (some (.inl (nI (zyo m x)))) mem) : zR κ d Y_Mo_bytesOf 0 [some (.inl (nI m)), some (.inl (nI x))] [] mem Q := by
  refine w_Mo_bytesOf_0 ?_
  rw [zx_div ⟨x, hx⟩]
  unfold zyo at hQ
  refine ⟨fun h => ?_, fun h => ?_⟩
  · rw [if_neg (fun z => h (by rw [z]; rfl))] at hQ
    refine ⟨fun h3 => ?_, fun h3 => ?_⟩
    · rw [if_neg (fun z => h3 (by rw [z]; rfl))] at hQ
      exact hQ
    · rw [if_pos ((nI_eq (by omega) (by decide)).mp h3)] at hQ
      rcases hm with rfl | rfl <;> exact hQ
  · rw [if_pos ((nI_eq (by omega) (by decide)).mp h), nI_succ] at hQ
    exact hQ
theorem s_Mo_byteOf {m x k : Nat} (hm : m = 4 ∨ m = 5) (hx : x < 16) (hk : k < zyo m x) (hQ : Q (some (.inl (zby m x k))) mem) : zR κ (d + 3) Y_Mo_byteOf 0 [some (.inl (nI m)), some (.inl (nI x)), some (.inl (nI k)), none, none, none] [] mem Q := by
  have hk7 : k < 7 := by
    have := @zyo_le m x
    omega
  refine w_Mo_byteOf_0 ?_
  rw [zx_mod ⟨x, hx⟩, zx_div ⟨x, hx⟩]
  have key : zpl x k < m → zR κ (d + 3) Y_Mo_byteOf 22 [some (.inl (nI m)), some (.inl (nI x)), some (.inl (nI k)), some (.inl (nI (x / 4))), some (.inl (nI (x % 4))), none] [] mem Q := by
    intro hlt
    have hby : zby m x k = if x / 4 = 1 ∧ zpl x k = 0 then zch (m - 4) (x % 4 * m + zpl x k) - 32 else zch (m - 4) (x % 4 * m + zpl x k) := by
      unfold zby
      rw [if_neg (by omega)]
    refine w_Mo_byteOf_22 ?_
    have j37 : zR κ (d + 3) Y_Mo_byteOf 37 [some (.inl (nI m)), some (.inl (nI x)), some (.inl (nI k)), some (.inl (nI (x / 4))), some (.inl (nI (x % 4))), none] [.inl (nI (zpl x k)), .inl (nI (x % 4)), .inl (nI m)] mem Q := by
      refine w_Mo_byteOf_37 (d := d + 2) ?_
      refine s_Mo_letter hm (by omega) hlt ⟨_, rfl, fun h1 => ?_, fun h1 => ⟨fun h2 => ?_, fun h2 => ?_⟩⟩
      · rw [hby, if_neg (fun z => h1 (by rw [z.1]; rfl))] at hQ
        exact hQ
      · have h1' : x / 4 = 1 := (nI_eq (by omega) (by decide)).mp h1
        have e : zpl x k = k := if_neg (by omega)
        rw [hby, if_neg (fun z => h2 (by rw [← e, z.2]; rfl))] at hQ
        exact hQ
      · have h1' : x / 4 = 1 := (nI_eq (by omega) (by decide)).mp h1
        have h2' : k = 0 := (nI_eq (by omega) (by decide)).mp h2
        have e : zpl x k = k := if_neg (by omega)
        rw [hby, if_pos ⟨h1', by rw [e]; exact h2'⟩] at hQ
        exact hQ
    refine ⟨fun h => ?_, fun h => ?_⟩
    · have e : zpl x k = k := if_neg (fun z => h (by rw [z]; rfl))
      rw [e] at j37
      exact j37
    · have e : zpl x k = k + 1 := if_pos ((nI_eq (by omega) (by decide)).mp h)
      rw [e, nI_succ] at j37
      exact j37
  have hz : x / 4 ≠ 2 → zpl x k < m := by
    intro h
    unfold zyo at hk
    rw [if_neg h] at hk
    unfold zpl
    split
    · rename_i z
      rw [if_pos z] at hk
      omega
    · rename_i z
      rw [if_neg z] at hk
      exact hk
  refine ⟨fun h => key (hz (fun z => h (by rw [z]; rfl))), fun h => ?_⟩
  have h2 : x / 4 = 2 := (nI_eq (by omega) (by decide)).mp h
  have hp : zpl x k = k := if_neg (by omega)
  unfold zyo at hk
  rw [if_pos h2] at hk
  refine ⟨fun h => key ?_, fun h => ?_⟩
  · have hne : k ≠ m := fun z => h (by rw [z])
    omega
  · have e : k = m := (nI_eq (by omega) (by omega)).mp h
    unfold zby at hQ
    rw [if_pos (by omega)] at hQ
    exact hQ
end zWords
