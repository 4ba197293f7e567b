/-! the reference reads a description by bits, and a whole description -/
section zMread2
variable {κ : zK} {d : Nat} {Q : Option zV → zM → Prop} {B S nb : Nat}
theorem zsorted_ex (rk : Nat → Nat) : ∀ l : List Nat, l.Nodup → (∀ a ∈ l, ∀ b ∈ l, rk a = rk b → a = b) → ∃ L : List Nat, L.Perm l ∧ L.Pairwise (fun a b => rk a < rk b) := by
  intro l
  induction l with
  | nil => intro _ _; exact ⟨[], List.Perm.refl _, List.Pairwise.nil⟩
  | cons x t ih =>
    intro hnd hinj
    have hx : x ∉ t := (List.nodup_cons.mp hnd).1
    obtain ⟨L, hp, hs⟩ := ih (List.nodup_cons.mp hnd).2 (fun a ha b hb => hinj a (List.mem_cons_of_mem _ ha) b (List.mem_cons_of_mem _ hb))
    have hne : ∀ a ∈ L, rk a ≠ rk x := fun a ha e => hx (by rw [← hinj a (List.mem_cons_of_mem _ (hp.mem_iff.mp ha)) x List.mem_cons_self e]; exact hp.mem_iff.mp ha)
    refine ⟨L.filter (fun a => decide (rk a < rk x)) ++ x :: L.filter (fun a => !decide (rk a < rk x)), ?_, ?_⟩
    · refine List.Perm.trans List.perm_middle (List.Perm.cons x ?_)
      exact (List.filter_append_perm (fun a => decide (rk a < rk x)) L).trans hp
    · refine List.pairwise_append.mpr ⟨hs.filter _, List.pairwise_cons.mpr ⟨fun b hb => ?_, hs.filter _⟩, fun a ha b hb => ?_⟩
      · obtain ⟨h1, h2⟩ := List.mem_filter.mp hb
        have h3 : ¬ rk b < rk x := by simpa using h2
        have := hne b h1
        omega
      · obtain ⟨h1, h2⟩ := List.mem_filter.mp ha
        have h3 : rk a < rk x := by simpa using h2
        rcases List.mem_cons.mp hb with e | e
        · rw [e]; exact h3
        · obtain ⟨h4, h5⟩ := List.mem_filter.mp e
          have h6 : ¬ rk b < rk x := by simpa using h5
          omega
theorem zSM_ok {f : Nat → Int32} {sz P : Nat} {m : zM} (h : zSM f sz P false m) : zSM f sz P false (zms m 68 28 0) := by
  obtain ⟨a1, a2, a3, a4, a5, a6, a7⟩ := h
  exact ⟨a1, a2, fun i hi => by rw [zms_ne (by decide)]; exact a3 i hi, a4, by rw [zms_nk (by decide)]; exact a5, by rw [zms_nk (by decide)]; exact a6, zms_ss⟩
theorem zbr_true {br : Bool} {x : Int32} (h : x = nI br.toNat) (h2 : ¬ x = 0) : br = true := by
  cases br with
  | true => rfl
  | false => exact absurd h h2
theorem zbr_false {br : Bool} {x : Int32} (h : x = nI br.toNat) (h2 : x = 0) : br = false := by
  cases br with
  | false => rfl
  | true => rw [h2] at h; exact absurd h (by decide)
set_option maxHeartbeats 1000000 in
theorem s_Mo_readFull_loop {f : Nat → Int32} {sz : Nat} {tot : Option (List (Nat × Nat) × Nat)} {m0 : zM} (hb : zBase B S nb)
    (hend : ∀ (x3 : Int32) (m' : zM) (P' : Nat) (br' : Bool), zSM f sz P' br' m' → zFm B S m0 m' → (br' = false → ∃ l', zMw B S m' l' ∧ tot = some (l', P')) → (br' = true → tot = none) → zR κ (d + 1) Y_Mo_readCode 166 [some (.inr 68), some (.inl (nI B)), some (.inl (nI S)), some (.inl x3), none, none] [] m' Q) :
    ∀ (u sp sy P : Nat) (br : Bool) (m : zM) (l : List (Nat × Nat)), S ≤ sy + u → sy ≤ 300 → sp ≤ 64 → (sp = 0 → sy ≤ S) → (∀ p ∈ l, p.1 < sy) → zSM f sz P br m → zFm B S m0 m → (br = false → zMw B S m l ∧ tot = zrdFull f (8 * sz) S (u + 1) sp sy P l) → (br = true → tot = none) → zR κ (d + 1) Y_Mo_readCode 51 [some (.inr 68), some (.inl (nI B)), some (.inl (nI S)), some (.inl (nI sp)), some (.inl (nI sy)), none] [] m Q := by
  obtain ⟨hBS, hS, hnb, hnb1⟩ := zBase_in hb
  -- a broken end
  have hbrk : ∀ (x3 : Int32) (P : Nat) (br : Bool) (m : zM), zSM f sz P br m → zFm B S m0 m → tot = none → zR κ (d + 1) Y_Mo_readCode 166 [some (.inr 68), some (.inl (nI B)), some (.inl (nI S)), some (.inl x3), none, none] [] (zms m 68 28 1) Q :=
    fun x3 P br m hs hf ht => hend x3 _ P true (zSM_br hs) (hf.tr zFm_br) (fun e => by cases e) (fun _ => ht)
  have hexit : ∀ (u sp sy P : Nat) (br : Bool) (m : zM) (l : List (Nat × Nat)), (br = false → S ≤ sy ∨ sp = 0) → sp ≤ 64 → sy ≤ 300 → (sp = 0 → sy ≤ S) → zSM f sz P br m → zFm B S m0 m → (br = false → zMw B S m l ∧ tot = zrdFull f (8 * sz) S (u + 1) sp sy P l) → (br = true → tot = none) → zR κ (d + 1) Y_Mo_readCode 140 [some (.inr 68), some (.inl (nI B)), some (.inl (nI S)), some (.inl (nI sp)), some (.inl (nI sy)), none] [] m Q := by
    intro u sp sy P br m l hx h64 h300 h00 hs hf ht1 ht2
    have e28 : m 68 28 = nI br.toNat := hs.2.2.2.2.2.2
    refine w_Mo_readCode_140 ⟨fun q => hbrk _ P br m hs hf (ht2 (zbr_true e28 q)), fun q => ?_⟩
    have ebr := zbr_false e28 q
    subst ebr
    refine ⟨fun q1 => hbrk _ P false m hs hf ?_, fun q1 => ?_⟩
    · have hsp : ¬ sp = 0 := fun e => q1 (by rw [e]; rfl)
      rw [(ht1 rfl).2, zrdFull, if_pos (hx rfl), if_neg hsp]
    · have hsp : sp = 0 := (nI_eq (a := sp) (b := 0) (by omega) (by decide)).mp q1
      refine ⟨fun _ => hend _ _ P false (zSM_ok hs) (hf.tr zFm_br) (fun _ => ⟨l, zMw_of (zms_ne (by decide)) (ht1 rfl).1, ?_⟩) (fun e => by cases e), fun q2 => absurd (nI_le (h00 hsp) (by omega)) q2⟩
      rw [(ht1 rfl).2, zrdFull, if_pos (hx rfl), if_pos hsp]
  -- a space below zero
  have hneg : ∀ (x : Int32) (sy P : Nat) (br : Bool) (m : zM), x < 0 → zSM f sz P br m → zFm B S m0 m → tot = none → zR κ (d + 1) Y_Mo_readCode 51 [some (.inr 68), some (.inl (nI B)), some (.inl (nI S)), some (.inl x), some (.inl (nI sy)), none] [] m Q := by
    intro x sy P br m hx hs hf ht
    refine w_Mo_readCode_51 ⟨fun _ => w_Mo_readCode_140 ⟨fun _ => hbrk _ P br m hs hf ht, fun _ => ⟨fun _ => hbrk _ P br m hs hf ht, fun e => ?_⟩⟩, fun q => absurd (Int32.le_of_lt hx) q⟩
    rw [e] at hx
    exact absurd hx (by decide)
  intro u
  induction u with
  | zero =>
    intro sp sy P br m l hu h300 h64 h00 hlt hs hf ht1 ht2
    have hx := hexit 0 sp sy P br m l (fun _ => Or.inl (by omega)) h64 h300 h00 hs hf ht1 ht2
    exact w_Mo_readCode_51 ⟨fun _ => hx, fun _ => ⟨fun _ => hx, fun q => absurd (nI_le (by omega) (by omega)) q⟩⟩
  | succ u ih =>
    intro sp sy P br m l hu h300 h64 h00 hlt hs hf ht1 ht2
    have e28 : m 68 28 = nI br.toNat := hs.2.2.2.2.2.2
    refine w_Mo_readCode_51 ⟨fun q => hexit (u + 1) sp sy P br m l (fun _ => Or.inr ?_) h64 h300 h00 hs hf ht1 ht2, fun q => ⟨fun q1 => hexit (u + 1) sp sy P br m l (fun _ => Or.inl ((nI_leI (by omega) (by omega)).mp q1)) h64 h300 h00 hs hf ht1 ht2, fun q1 => ⟨fun q2 => hexit (u + 1) sp sy P br m l (fun e => ?_) h64 h300 h00 hs hf ht1 ht2, fun q2 => ?_⟩⟩⟩
    · rcases Nat.eq_zero_or_pos sp with z | z
      · exact z
      · exact absurd q (nI_nle z (by omega))
    · rw [zbr_true e28 q2] at e; cases e
    · have ebr := zbr_false e28 q2
      subst ebr
      obtain ⟨hw, htot⟩ := ht1 rfl
      have hsy : sy < S := by
        rcases Nat.lt_or_ge sy S with z | z
        · exact z
        · exact absurd (nI_le z (by omega)) q1
      have hsp : 0 < sp := by
        rcases Nat.eq_zero_or_pos sp with z | z
        · exact absurd (by rw [z]; decide) q
        · exact z
      have hx : ¬ (S ≤ sy ∨ sp = 0) := by omega
      have hns : sy ∉ l.map Prod.fst := by
        intro z
        obtain ⟨p, hp, e⟩ := List.mem_map.mp z
        have := hlt p hp
        omega
      refine r_Mo_take (n := 3) (by decide) hs (fun b P1 br1 m1 hv hs1 hf1 hf2 htk => ⟨nI b, rfl, ?_⟩)
      have hb8 : b < 8 := hv
      have hF1 : zFm B S m0 m1 := hf.tr (zFm_tk hf1 hf2)
      have e73 : m1 73 = m 73 := hf1 73 (by decide)
      have hw1 : zMw B S m1 l := zMw_of e73 hw
      have hstep : ∀ X : Option (List (Nat × Nat) × Nat), (br1 = false → (if b = 7 then (match zrd f (8 * sz) P1 4 with | none => none | some (v, P2) => zrdFull f (8 * sz) S (u + 1) sp (sy + (v + 3)) P2 l) else if b = 0 then zrdFull f (8 * sz) S (u + 1) sp (sy + 1) P1 l else if sp < 64 / 2 ^ b then none else zrdFull f (8 * sz) S (u + 1) (sp - 64 / 2 ^ b) (sy + 1) P1 (l ++ [(sy, b)])) = X) → (br1 = true → X = none) → tot = X := by
        intro X hX hX2
        rw [htot, zrdFull, if_neg hx]
        rcases htk.2 rfl with ⟨e1, e2⟩ | ⟨e1, e2⟩
        · rw [e1]; exact hX e2
        · rw [e1, hX2 e2]
      have eadd : nI B + nI sy = nI (B + sy) := nI_add B sy
      have hin : vp_in (nI B + nI sy) 1024 := by rw [eadd]; exact vp_in_nI (by omega) (by decide)
      have ecl : (nI B + nI sy).toNatClampNeg = B + sy := by rw [eadd]; exact nI_clamp (by omega)
      have hFs : ∀ x : Int32, zFm B S m0 (zms m1 73 (B + sy) x) := fun x => hF1.tr ⟨fun q _ b => zms_ne b, fun i _ _ => by rw [zms_ne (by decide)], fun i hi => zms_nk (by omega)⟩
      have hSs : ∀ x : Int32, zSM f sz P1 br1 (zms m1 73 (B + sy) x) := fun x => zSM_of hs1 (zms_ne (by decide)) (by rw [zms_ne (by decide)]) (by rw [zms_ne (by decide)]) (by rw [zms_ne (by decide)])
      refine ⟨fun q3 => ⟨fun q4 => ?_, fun q4 => ?_⟩, fun q3 => ?_⟩
      · have hb0 : b = 0 := by
          rcases Nat.eq_zero_or_pos b with z | z
          · exact z
          · exact absurd q4 (nI_nle z (by omega))
        refine w_Mo_readCode_116 ⟨hin, fun _ => ?_, fun z => absurd q4 z⟩
        rw [ecl, nI_1]
        refine ih sp (sy + 1) P1 br1 _ l (by omega) (by omega) h64 (fun e => by omega) (fun p hp => Nat.lt_succ_of_lt (hlt p hp)) (hSs _) (hFs _) (fun e => ⟨?_, hstep _ (fun _ => ?_) (fun e2 => by rw [e2] at e; cases e)⟩) (fun e => hstep none (fun e2 => by rw [e2] at e; cases e) (fun _ => rfl))
        · rw [zms_self (hw1.2.1 sy hsy hns)]
          exact hw1
        · rw [if_neg (by omega), if_pos hb0]
      · have hb7 : ¬ b = 7 := fun e => q3 (by rw [e]; rfl)
        have hb0 : ¬ b = 0 := fun e => q4 (by rw [e]; decide)
        refine w_Mo_readCode_116 ⟨hin, fun z => absurd z q4, fun _ => ?_⟩
        rw [ecl, nI_1, z64_shr (by omega)]
        by_cases hle : 64 / 2 ^ b ≤ sp
        · rw [pk_sub hle]
          refine ih (sp - 64 / 2 ^ b) (sy + 1) P1 br1 _ (l ++ [(sy, b)]) (by omega) (by omega) (Nat.le_trans (Nat.sub_le _ _) h64) (fun _ => by omega) (fun p hp => ?_) (hSs _) (hFs _) (fun e => ⟨zMw_add hw1 hsy (by omega) hns zms_ss (fun i hi => zms_nk hi), hstep _ (fun _ => ?_) (fun e2 => by rw [e2] at e; cases e)⟩) (fun e => hstep none (fun e2 => by rw [e2] at e; cases e) (fun _ => rfl))
          · rcases List.mem_append.mp hp with z | z
            · exact Nat.lt_succ_of_lt (hlt p z)
            · rw [List.mem_singleton.mp z]; exact Nat.lt_succ_self sy
          · rw [if_neg hb7, if_neg hb0, if_neg (Nat.not_lt.mpr hle)]
        · have hgt : sp < 64 / 2 ^ b := Nat.not_le.mp hle
          have hk : 64 / 2 ^ b ≤ 64 := Nat.div_le_self _ _
          refine hneg _ (sy + 1) P1 br1 _ (pk_sneg (by omega) hgt) (hSs _) (hFs _) (hstep none (fun _ => ?_) (fun _ => rfl))
          rw [if_neg hb7, if_neg hb0, if_pos hgt]
      · have hb7 : b = 7 := (nI_eq (a := b) (b := 7) (by omega) (by decide)).mp q3
        refine r_Mo_take (n := 4) (by decide) hs1 (fun v P2 br2 m2 hv2 hs2 hg1 hg2 htk2 => ⟨nI v, rfl, ?_⟩)
        have hv16 : v < 16 := hv2
        rw [show nI sy + 3 + nI v = nI (sy + (v + 3)) by rw [show (3 : Int32) = nI 3 from rfl, nI_add, nI_add, show sy + 3 + v = sy + (v + 3) by omega]]
        refine ih sp (sy + (v + 3)) P2 br2 m2 l (by omega) (by omega) h64 (fun e => by omega) (fun p hp => by have := hlt p hp; omega) hs2 (hF1.tr (zFm_tk hg1 hg2)) (fun e => ⟨zMw_of (hg1 73 (by decide)) hw1, hstep _ (fun e1 => ?_) (fun e1 => ?_)⟩) (fun e => hstep none (fun e1 => ?_) (fun _ => rfl))
        · rw [if_pos hb7]
          rcases htk2.2 e1 with ⟨z1, -⟩ | ⟨-, z2⟩
          · rw [z1]
          · rw [z2] at e; cases e
        · rw [htk2.1 e1] at e; cases e
        · rw [if_pos hb7]
          rcases htk2.2 e1 with ⟨-, z2⟩ | ⟨z1, -⟩
          · rw [z2] at e; cases e
          · rw [z1]
end zMread2
