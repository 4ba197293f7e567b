/-! all commands of a block, written on both sides -/
section zCmds
variable {κ : zK} {d : Nat} {Q : Option zV → zM → Prop} {T : List Nat} {map : Bool} {tm : Nat → Nat}
def zbl (l : List zCmd) : Nat := 29 * l.length + 6 * (l.map (fun c => c.2.1)).sum
theorem zbl_cons {a : zCmd} {l : List zCmd} : zbl (a :: l) = 29 + 6 * a.2.1 + zbl l := by
  unfold zbl
  rw [List.length_cons, List.map_cons, List.sum_cons]
  omega
def zcbs (T : List Nat) (map : Bool) (tm : Nat → Nat) (cs : List zCmd) : List Bool := cs.flatMap (zcb T map tm)
theorem zcbs_cons {a : zCmd} {l : List zCmd} : zcbs T map tm (a :: l) = zcb T map tm a ++ zcbs T map tm l := List.flatMap_cons
theorem zcbs_len : ∀ cs : List zCmd, (∀ c ∈ cs, zcok c) → (zcbs T map tm cs).length ≤ zbl cs := by
  intro cs
  induction cs with
  | nil => intro _; exact Nat.zero_le _
  | cons a cs ih =>
    intro h
    rw [zcbs_cons, List.length_append, zbl_cons]
    have h1 := zcb_len (T := T) (map := map) (tm := tm) (h a List.mem_cons_self)
    have h2 := ih (fun c hc => h c (List.mem_cons_of_mem _ hc))
    omega
theorem zbl_le {p e : Nat} {cs : List zCmd} (hok : zCok p e cs) (hpe : e ≤ p + 48) : zbl cs ≤ 781 := by
  have h3 := zch2_n cs p hok.1
  have h4 := hok.2.2
  unfold zbl
  omega
theorem s_writeCmds {m : zM} {p e : Nat} {cs : List zCmd} {bs : List Bool} {x1 x4 x5 x6 : Int32} (hT : zTx T m) (hP : zPl cs m) (hok : zCok p e cs) (he : e ≤ T.length) (hM : zM4 (zctm T map cs) m) (hl : bs.length + zbl cs + 400 ≤ 8000) (hw : zWB m bs)
    (hQ : ∀ m', zWB m' (bs ++ zcbs T map (zctm T map cs) cs) → zF34 m m' → Q none m') : zR κ (d + 4) Y_Packer_writeInWay 175 [some (.inr 6), some (.inl x1), some (.inr 1), some (.inr 3), some (.inl x4), some (.inl x5), some (.inl x6), some (.inl (nI map.toNat)), some (.inl 0)] [] m Q := by
  have h17 := hok.2.2
  have key : ∀ (r k : Nat) (m1 : zM) (bs1 : List Bool), k + r = cs.length → bs1.length + zbl (cs.drop k) + 400 ≤ 8000 → zF34 m m1 → zWB m1 bs1 → bs1 ++ zcbs T map (zctm T map cs) (cs.drop k) = bs ++ zcbs T map (zctm T map cs) cs → zR κ (d + 3 + 1) Y_Packer_writeInWay 175 [some (.inr 6), some (.inl x1), some (.inr 1), some (.inr 3), some (.inl x4), some (.inl x5), some (.inl x6), some (.inl (nI map.toNat)), some (.inl (nI k))] [] m1 Q := by
    intro r
    induction r with
    | zero =>
      intro k m1 bs1 hk hl1 hF hw1 he1
      have e8 : m1 31 8 = nI cs.length := by rw [hF.1 31 (by decide) (by decide)]; exact hP.1
      rw [List.drop_eq_nil_of_le (by omega), show zcbs T map (zctm T map cs) [] = [] from rfl, List.append_nil] at he1
      rw [he1] at hw1
      refine w_Packer_writeInWay_175 is_Text_1 ⟨fun _ => hQ m1 hw1 hF, fun g => ?_⟩
      rw [e8] at g
      exact absurd (nI_le (by omega) (by omega)) g
    | succ r ih =>
      intro k m1 bs1 hk hl1 hF hw1 he1
      have hkl : k < cs.length := by omega
      have e8 : m1 31 8 = nI cs.length := by rw [hF.1 31 (by decide) (by decide)]; exact hP.1
      have hcok : zcok (cs.getD k zcn0) := hok.2.1 _ (by rw [zgd_get cs zcn0 hkl]; exact List.getElem_mem _)
      have hcl := zcb_len (T := T) (map := map) (tm := zctm T map cs) hcok
      rw [zdrop_consC hkl] at hl1 he1
      rw [zbl_cons] at hl1
      rw [zcbs_cons] at he1
      refine w_Packer_writeInWay_175 is_Text_1 ⟨fun g => ?_, fun _ => ?_⟩
      · rw [e8] at g
        exact absurd g (nI_ge hkl (by omega))
      refine s_writeCmd (zTx_f hF hT) (zPl_f hF hP) hok he hkl (zM4_f hF hM) (by omega) hw1 (fun m2 a1 a2 => ⟨rfl, ?_⟩)
      rw [nI_1]
      refine ih (k + 1) m2 _ (by omega) (by rw [List.length_append]; omega) (hF.tr a2) a1 ?_
      rw [List.append_assoc]
      exact he1
  exact key cs.length 0 m bs (by omega) (by rw [List.drop_zero]; exact hl) zF34.rf hw (by rw [List.drop_zero])
/-- the reference's words -/
def zWr (map : Bool) (tm : Nat → Nat) (m : zM) : Prop := ∀ B S nb, zBase B S nb → (B = 256 → map = true) → (∀ s, s < S → s ∈ zL0 (fun t => tm (B + t)) S → m 73 (B + s) = nI (zcw (fun t => tm (B + t)) S s)) ∧ ∀ s ∈ zL0 (fun t => tm (B + t)) S, m 74 (B + s) = zcv (fun t => tm (B + t)) S s
theorem zWr_f {m m' : zM} (h : zF68 m m') (hm : zWr map tm m) : zWr map tm m' := by
  unfold zWr
  rw [h.1 73 (by decide) (by decide), h.1 74 (by decide) (by decide)]
  exact hm
theorem s_symW {B S nb s : Nat} {m : zM} {bs : List Bool} (hb : zBase B S nb) (hm : B = 256 → map = true) (hW : zWr map tm m) (hsS : s < S) (hp : 0 < tm (B + s)) (hl : bs.length + 6 ≤ 4000) (hw : zWM m bs)
    (hQ : ∀ m', zWM m' (bs ++ zW tm B S s) → zF68 m m' → Q none m') : zR κ (d + 1) Y_Mo_symbol 0 [some (.inr 68), some (.inl (nI (B + s))), some (.inl 1), none] [] m Q := by
  obtain ⟨hBS, hS, hnb, hnb1⟩ := zBase_in hb
  have hs : s ∈ zL0 (fun t => tm (B + t)) S := zL0_in (tm := fun t => tm (B + t)) hsS hp
  obtain ⟨w1, w2⟩ := hW B S nb hb hm
  exact s_symWrite (tm := fun t => tm (B + t)) hBS hsS (w1 s hsS hs) (w2 s hs) hl hw hQ
theorem zbits_z (x : Int32) (k : Nat) : zbits x k 0 = [] := rfl
theorem zDT_0 : ∀ s : Fin 14, (s.val ≤ 5 → zDT.getD s.val 0 = 0) := by decide
set_option maxHeartbeats 1000000 in
theorem m_write {m : zM} {p e : Nat} {cs : List zCmd} {bs : List Bool} (hT : zTm T m) (hP : zPm cs m) (hok : zCok p e cs) (he : e ≤ T.length) (hW : zWr map (zctm T map cs) m) (hl : bs.length + zbl cs ≤ 4000) (hw : zWM m bs)
    (hQ : ∀ m', zWM m' (bs ++ zcbs T map (zctm T map cs) cs) → zF68 m m' → Q none m') : zR κ (d + 2) Y_Mo_through 0 [some (.inr 68), some (.inl (nI p)), some (.inl (nI map.toNat)), some (.inl 1), none, none, none, none, none] [] m Q := by
  have h17 := hok.2.2
  have h96 := hT.1
  refine w_Mo_through_0 ?_
  have key : ∀ (r k q : Nat) (m5 : zM) (bs5 : List Bool), k + r = cs.length → zch2 q (cs.drop k) e → q ≤ e → bs5.length + zbl (cs.drop k) ≤ 4000 → zF68 m m5 → zWM m5 bs5 → bs5 ++ zcbs T map (zctm T map cs) (cs.drop k) = bs ++ zcbs T map (zctm T map cs) cs → zR κ (d + 1 + 1) Y_Mo_through 6 [some (.inr 68), some (.inl (nI p)), some (.inl (nI map.toNat)), some (.inl 1), some (.inl (nI q)), some (.inl (nI k)), none, none, none] [] m5 Q := by
    intro r
    induction r with
    | zero =>
      intro k q m5 bs5 hk _ _ hl5 hF hw5 he5
      rw [List.drop_eq_nil_of_le (by omega), show zcbs T map (zctm T map cs) [] = [] from rfl, List.append_nil] at he5
      rw [he5] at hw5
      have e15 : m5 68 15 = nI cs.length := by rw [hF.2 15 (by decide)]; exact hP.1
      refine w_Mo_through_6 ⟨fun _ => hQ m5 hw5 hF, fun g => ?_⟩
      rw [e15] at g
      exact absurd (nI_le (by omega) (by omega)) g
    | succ r ih =>
      intro k q m5 bs5 hk hch hqe hl5 hF hw5 he5
      have hkl : k < cs.length := by omega
      have e15 : m5 68 15 = nI cs.length := by rw [hF.2 15 (by decide)]; exact hP.1
      have hcm := hP.2 k hkl
      have hmem : cs.getD k zcn0 ∈ cs := by rw [zgd_get cs zcn0 hkl]; exact List.getElem_mem _
      have hcok : zcok (cs.getD k zcn0) := hok.2.1 _ hmem
      obtain ⟨u1, u2, u3⟩ := zuse (T := T) (map := map) hmem
      rw [zdrop_consC hkl] at he5 hch hl5
      generalize hc : cs.getD k zcn0 = c at *
      rw [zbl_cons] at hl5
      rw [zcbs_cons] at he5
      obtain ⟨hcq, hch⟩ := hch
      have hend := zch2_n _ _ hch
      obtain ⟨o1, o2, o3, o4, o5, o6, o7, o8, o9, o10⟩ := hcok
      obtain ⟨g77, g78, g79, g80, g81, g82, g83⟩ := hcm
      obtain ⟨i1, i2, i3⟩ := zis_eq ⟨c.2.1, by omega⟩
      have i2 : zis c.2.1 < 4 := i2
      have hcell : ∀ (m6 : zM) (p5 : Nat), zF68 m m6 → 77 ≤ p5 → m6 p5 k = m p5 k := fun m6 p5 h6 h7 => by rw [h6.1 p5 (by omega) (by omega)]
      have hin : vp_in (nI k) 50 := vp_in_nI (by omega) (by decide)
      obtain ⟨v1, v2, v3, v4⟩ := tv2_nI ⟨c.2.2.1, o2⟩
      have v3 : zCT.getD c.2.2.1 0 ≤ 5 := v3
      have t3 := (tv0_nI ⟨zis c.2.1, i2⟩).2.2.1
      have t3 : zIT.getD (zis c.2.1) 0 ≤ 6 := t3
      -- the literals, then the distance
      have k134 : ∀ (rr j : Nat) (m6 : zM) (bs6 : List Bool), j + rr = c.2.1 → bs6.length + 6 * rr + 12 + zbl (cs.drop (k + 1)) ≤ 4000 → zF68 m m6 → zWM m6 bs6 → bs6 ++ (zlw T map (zctm T map cs) rr (q + j) ++ (zdw (zctm T map cs) c.2.2.2.2.1 c.2.2.2.2.2.1 ++ zcbs T map (zctm T map cs) (cs.drop (k + 1)))) = bs ++ zcbs T map (zctm T map cs) cs → zR κ (d + 1 + 1) Y_Mo_through 134 [some (.inr 68), some (.inl (nI p)), some (.inl (nI map.toNat)), some (.inl 1), some (.inl (nI (q + j))), some (.inl (nI k)), some (.inl (nI (zis c.2.1))), some (.inl (nI j)), none] [] m6 Q := by
        intro rr
        induction rr with
        | zero =>
          intro j m6 bs6 hj hl6 hF6 hw6 he6
          have e77 : m6 77 k = nI c.2.1 := (hcell m6 77 hF6 (by decide)).trans g77
          have e80 : m6 80 k = zsI c.2.2.2.2.1 := (hcell m6 80 hF6 (by decide)).trans g80
          have e82 : m6 82 k = nI c.2.2.2.2.2.2.1 := (hcell m6 82 hF6 (by decide)).trans g82
          have ej : j = c.2.1 := by omega
          subst ej
          rw [zlw, List.nil_append] at he6
          refine w_Mo_through_134 ?_
          rw [nI_clamp (by omega), e77, e80, e82]
          refine ⟨hin, fun _ => ⟨hin, fun g => ⟨hin, ?_⟩, fun g => ⟨hin, ?_⟩⟩, fun g => absurd (Int32.le_refl _) g⟩
          · have hs : c.2.2.2.2.1 = 0 := by
              by_cases hs : c.2.2.2.2.1 = 0
              · exact hs
              · unfold zsI at g
                rw [if_neg hs] at g
                exact absurd g (nI_pos (by omega))
            rw [nI_1, nI_add]
            rw [zdw, if_pos hs, List.nil_append] at he6
            exact ih (k + 1) _ m6 bs6 (by omega) hch (by omega) (by omega) hF6 hw6 he6
          · have hs : ¬ c.2.2.2.2.1 = 0 := fun w => g (by rw [w]; decide)
            have ezs : zsI c.2.2.2.2.1 = nI (c.2.2.2.2.1 - 1) := by unfold zsI; rw [if_neg hs]
            have e7 : (768 : Int32) + nI (c.2.2.2.2.1 - 1) = nI (768 + (c.2.2.2.2.1 - 1)) := nI_add 768 _
            have hwl := zW_len (tm := zctm T map cs) (B := 768) (S := 14) (s := c.2.2.2.2.1 - 1)
            rw [zdw, if_neg hs] at he6
            rw [ezs, e7]
            refine s_symW (B := 768) (S := 14) (nb := 4) (Or.inr (Or.inr (Or.inr ⟨rfl, rfl, rfl⟩))) (fun w => absurd w (by decide)) (zWr_f hF6 hW) (by omega) (u3 hs) (by omega) hw6 (fun m7 a1 a2 => ⟨rfl, fun w => absurd w (by decide), fun _ => ⟨hin, fun z => ⟨hin, ?_⟩, fun z => ⟨hin, hin, ?_⟩⟩⟩)
            · have e80' : m7 80 k = nI (c.2.2.2.2.1 - 1) := by rw [(hcell m7 80 (hF6.tr a2) (by decide)).trans g80, ezs]
              have e82' : m7 82 k = nI c.2.2.2.2.2.2.1 := (hcell m7 82 (hF6.tr a2) (by decide)).trans g82
              rw [e80'] at z
              have z := (nI_leI (by omega) (by decide)).mp (show nI (c.2.2.2.2.1 - 1) ≤ nI 5 from z)
              have hz := zDT_0 ⟨c.2.2.2.2.1 - 1, by omega⟩ z
              have hz : zDT.getD (c.2.2.2.2.1 - 1) 0 = 0 := hz
              rw [hz, zbits_z, List.append_nil] at he6
              rw [e82', nI_1, nI_add]
              refine ih (k + 1) _ m7 _ (by omega) hch (by omega) (by rw [List.length_append]; omega) (hF6.tr a2) a1 ?_
              rw [List.append_assoc]
              exact he6
            · have e80' : m7 80 k = nI (c.2.2.2.2.1 - 1) := by rw [(hcell m7 80 (hF6.tr a2) (by decide)).trans g80, ezs]
              rw [e80'] at z
              have z : 5 < c.2.2.2.2.1 - 1 := by
                rcases Nat.lt_or_ge 5 (c.2.2.2.2.1 - 1) with w | w
                · exact w
                · exact absurd (show nI (c.2.2.2.2.1 - 1) ≤ nI 5 from nI_le w (by decide)) z
              have y3 := (tv4_nI ⟨c.2.2.2.2.1 - 1, by omega⟩).2.2.1
              have y3 : zDT.getD (c.2.2.2.2.1 - 1) 0 ≤ 6 := y3
              rw [e80']
              refine s_extra (by omega) (by omega) ⟨_, rfl, ?_⟩
              rw [(hcell m7 81 (hF6.tr a2) (by decide)).trans (g81 (by omega))]
              refine s_number (by omega) (by rw [List.length_append]; omega) a1 (fun m8 b1 b2 => ⟨rfl, hin, ?_⟩)
              have e82' : m8 82 k = nI c.2.2.2.2.2.2.1 := (hcell m8 82 ((hF6.tr a2).tr b2) (by decide)).trans g82
              rw [e82', nI_1, nI_add]
              refine ih (k + 1) _ m8 _ (by omega) hch (by omega) (by rw [List.length_append, List.length_append, zbits_length]; omega) ((hF6.tr a2).tr b2) b1 ?_
              rw [nI_sub (o6 (by omega))] at he6
              rw [List.append_assoc, List.append_assoc]
              rw [List.append_assoc] at he6
              exact he6
        | succ rr ih2 =>
          intro j m6 bs6 hj hl6 hF6 hw6 he6
          have e77 : m6 77 k = nI c.2.1 := (hcell m6 77 hF6 (by decide)).trans g77
          have hT6 : zTm T m6 := zTm_of (hF6.2 0 (by decide)) (hF6.1 69 (by decide) (by decide)) hT
          have hb := zT_b (T := T) (i := q + j) hT.2.2.2
          have hpos := u2 j (by omega)
          rw [hcq] at hpos
          have hwl := zW_len (tm := zctm T map cs) (B := if zsml2 T map (q + j) = true then 256 else 0) (S := 256) (s := T.getD (q + j) 0)
          rw [zlw] at he6
          refine w_Mo_through_134 ?_
          rw [nI_clamp (by omega), e77]
          refine ⟨hin, fun g => absurd g (nI_ge (by omega) (by omega)), fun _ => m_small hT6 (by omega) (fun x8 => ?_)⟩
          refine w_Mo_through_203 ?_
          rw [nI_clamp (by omega), hT6.2.2.1 _ (by omega), nI_add, nI_1, nI_1]
          have go : ∀ B, B = (if zsml2 T map (q + j) = true then 256 else 0) → zBase B 256 8 → (B = 256 → map = true) → zR κ (d + 1) Y_Mo_symbol 0 [some (.inr 68), some (.inl (nI (B + T.getD (q + j) 0))), some (.inl 1), none] [] m6 (fun r m1 => r = none ∧ zR κ (d + 1 + 1) Y_Mo_through 134 [some (.inr 68), some (.inl (nI p)), some (.inl (nI map.toNat)), some (.inl 1), some (.inl (nI (q + j + 1))), some (.inl (nI k)), some (.inl (nI (zis c.2.1))), some (.inl (nI (j + 1))), none] [] m1 Q) := by
            intro B hB hbs hbm
            rw [← hB] at he6 hwl
            unfold zli at hpos
            rw [← hB] at hpos
            refine s_symW hbs hbm (zWr_f hF6 hW) hb hpos (by omega) hw6 (fun m7 a1 a2 => ⟨rfl, ?_⟩)
            rw [show q + j + 1 = q + (j + 1) by omega]
            refine ih2 (j + 1) m7 _ (by omega) (by rw [List.length_append]; omega) (hF6.tr a2) a1 ?_
            rw [show q + (j + 1) = q + j + 1 by omega, List.append_assoc]
            rw [List.append_assoc] at he6
            exact he6
          refine ⟨vp_in_nI (by omega) (by decide), ?_⟩
          by_cases hsm : zsml2 T map (q + j) = true
          · rw [if_pos hsm] at go ⊢
            refine go 256 rfl (Or.inr (Or.inl ⟨rfl, rfl, rfl⟩)) (fun _ => ?_)
            unfold zsml2 at hsm
            cases map
            · cases hsm
            · rfl
          · rw [if_neg hsm] at go ⊢
            exact go 0 rfl (Or.inl ⟨rfl, rfl, rfl⟩) (fun w => absurd w (by decide))
      -- behind the command's word
      have hwl := zW_len (tm := zctm T map cs) (B := 512) (S := 32) (s := 8 * zis c.2.1 + c.2.2.1)
      unfold zcb at he5
      have k96 : ∀ (m6 : zM) (bs6 : List Bool) (v : Int32), bs6.length ≤ bs5.length + 6 → zF68 m m6 → zWM m6 bs6 → bs6 ++ (zbits v 0 (zIT.getD (zis c.2.1) 0) ++ (zbits (nI c.2.2.2.1 - nI (zCB.getD c.2.2.1 0)) 0 (zCT.getD c.2.2.1 0) ++ (zlw T map (zctm T map cs) c.2.1 (q + 0) ++ (zdw (zctm T map cs) c.2.2.2.2.1 c.2.2.2.2.2.1 ++ zcbs T map (zctm T map cs) (cs.drop (k + 1)))))) = bs ++ zcbs T map (zctm T map cs) cs → zR κ (d + 1 + 1) Y_Mo_through 96 [some (.inr 68), some (.inl (nI p)), some (.inl (nI map.toNat)), some (.inl 1), some (.inl (nI q)), some (.inl (nI k)), some (.inl (nI (zis c.2.1))), none, none] [.inl (nI (zIT.getD (zis c.2.1) 0)), .inl v, .inr 68] m6 Q := by
        intro m6 bs6 v hl6 hF6 hw6 he6
        refine w_Mo_through_96 (s_number (by omega) (by omega) hw6 (fun m7 a1 a2 => ⟨rfl, hin, hin, ?_⟩))
        have e78 : m7 78 k = nI c.2.2.1 := (hcell m7 78 (hF6.tr a2) (by decide)).trans g78
        rw [nI_clamp (by omega), e78]
        refine s_copyFrom o2 ⟨_, rfl, hin, ?_⟩
        rw [e78]
        refine s_copyBits o2 ⟨_, rfl, ?_⟩
        rw [(hcell m7 79 (hF6.tr a2) (by decide)).trans g79]
        have hsame : zbits (nI (if c.2.2.2.2.2.2.1 = 0 then 0 else c.2.2.2.1) - nI (zCB.getD c.2.2.1 0)) 0 (zCT.getD c.2.2.1 0) = zbits (nI c.2.2.2.1 - nI (zCB.getD c.2.2.1 0)) 0 (zCT.getD c.2.2.1 0) := by
          by_cases h0 : c.2.2.2.2.2.2.1 = 0
          · rw [o7 h0, show zCT.getD 0 0 = 0 from rfl, zbits_z, zbits_z]
          · rw [if_neg h0]
        refine s_number (by omega) (by rw [List.length_append, zbits_length]; omega) a1 (fun m8 b1 b2 => ⟨rfl, ?_⟩)
        rw [hsame] at b1
        refine k134 c.2.1 0 m8 _ (by omega) (by rw [List.length_append, List.length_append, zbits_length, zbits_length]; omega) ((hF6.tr a2).tr b2) b1 ?_
        rw [List.append_assoc, List.append_assoc]
        exact he6
      have e77 : m5 77 k = nI c.2.1 := (hcell m5 77 hF (by decide)).trans g77
      have e78 : m5 78 k = nI c.2.2.1 := (hcell m5 78 hF (by decide)).trans g78
      refine w_Mo_through_6 ⟨fun g => ?_, fun _ => ?_⟩
      · rw [e15] at g
        exact absurd g (nI_ge hkl (by omega))
      rw [nI_clamp (by omega), e77]
      refine ⟨hin, s_insKind (by omega) ⟨_, rfl, hin, ?_⟩⟩
      rw [e78]
      have e8 : (8 : Int32) * nI (zis c.2.1) = nI (8 * zis c.2.1) := (Int32.ofNat_mul 8 _).symm
      have e9 : (512 : Int32) + nI (8 * zis c.2.1) = nI (512 + 8 * zis c.2.1) := nI_add 512 _
      rw [e8, e9, nI_add, show 512 + 8 * zis c.2.1 + c.2.2.1 = 512 + (8 * zis c.2.1 + c.2.2.1) by omega]
      refine s_symW (B := 512) (S := 32) (nb := 5) (Or.inr (Or.inr (Or.inl ⟨rfl, rfl, rfl⟩))) (fun w => absurd w (by decide)) (zWr_f hF hW) (by omega) u1 (by omega) hw5 (fun m7 a1 a2 => ⟨rfl, fun w => absurd w (by decide), fun _ => ⟨hin, ?_⟩⟩)
      have e77' : m7 77 k = nI c.2.1 := (hcell m7 77 (hF.tr a2) (by decide)).trans g77
      rw [e77']
      have hl7 : (bs5 ++ zW (zctm T map cs) 512 32 (8 * zis c.2.1 + c.2.2.1)).length ≤ bs5.length + 6 := by
        rw [List.length_append]
        omega
      have he7 : (bs5 ++ zW (zctm T map cs) 512 32 (8 * zis c.2.1 + c.2.2.1)) ++ (zbits (nI c.2.1 - nI (zIB.getD (zis c.2.1) 0)) 0 (zIT.getD (zis c.2.1) 0) ++ (zbits (nI c.2.2.2.1 - nI (zCB.getD c.2.2.1 0)) 0 (zCT.getD c.2.2.1 0) ++ (zlw T map (zctm T map cs) c.2.1 (q + 0) ++ (zdw (zctm T map cs) c.2.2.2.2.1 c.2.2.2.2.2.1 ++ zcbs T map (zctm T map cs) (cs.drop (k + 1)))))) = bs ++ zcbs T map (zctm T map cs) cs := by
        rw [← he5, hcq, Nat.add_zero]
        simp only [List.append_assoc]
      obtain ⟨z1, z2, z3⟩ := zib_0 ⟨zis c.2.1, i2⟩
      have z1 : zis c.2.1 < 2 → zIB.getD (zis c.2.1) 0 = zis c.2.1 ∧ zIT.getD (zis c.2.1) 0 = 0 := z1
      have z2 : zis c.2.1 = 2 → zIB.getD (zis c.2.1) 0 = 2 ∧ zIT.getD (zis c.2.1) 0 = 2 := z2
      have z3 : zis c.2.1 = 3 → zIB.getD (zis c.2.1) 0 = 6 ∧ zIT.getD (zis c.2.1) 0 = 6 := z3
      refine ⟨fun g => w_Mo_through_73 ⟨fun _ => ⟨fun g3 => ?_, fun g3 => ?_⟩, fun g2 => absurd g2 g⟩, fun g => w_Mo_through_73 ⟨fun g2 => absurd g g2, fun _ => ?_⟩⟩
      · have g : ¬ zis c.2.1 = 2 := fun w => g (by rw [w]; rfl)
        have g3 : ¬ zis c.2.1 = 3 := fun w => g3 (by rw [w]; rfl)
        obtain ⟨y1, y2⟩ := z1 (by omega)
        have := k96 m7 _ (nI c.2.1 - 6) hl7 (hF.tr a2) a1
        rw [y2, zbits_z] at this he7
        exact this he7
      · have g3 : zis c.2.1 = 3 := (nI_eq (by omega) (by decide)).mp g3
        obtain ⟨y1, y2⟩ := z3 g3
        have := k96 m7 _ (nI c.2.1 - 6) hl7 (hF.tr a2) a1
        rw [y2] at this he7
        rw [y1, show nI 6 = (6 : Int32) from rfl] at he7
        exact this he7
      · have g : zis c.2.1 = 2 := (nI_eq (by omega) (by decide)).mp g
        obtain ⟨y1, y2⟩ := z2 g
        have := k96 m7 _ (nI c.2.1 - 2) hl7 (hF.tr a2) a1
        rw [y2] at this he7
        rw [y1, show nI 2 = (2 : Int32) from rfl] at he7
        exact this he7
  have hpe : p ≤ e := by
    have := zch2_n cs p hok.1
    omega
  exact key cs.length 0 p m bs (by omega) (by rw [List.drop_zero]; exact hok.1) hpe (by rw [List.drop_zero]; exact hl) zF68.rf hw (by rw [List.drop_zero])
end zCmds
