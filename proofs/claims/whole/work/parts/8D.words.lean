/-! words and commands in bits, written on both sides -/
section zWords
variable {κ : zK} {d : Nat} {Q : Option zV → zM → Prop} {T : List Nat} {map : Bool} {tm : Nat → Nat}
def zwB (x : Int32) : Nat → List Bool
  | 0 => []
  | b + 1 => zib x b :: zwB x b
def zwrdB (tm : Nat → Nat) (S s : Nat) : List Bool := zwB (zcv tm S s) (zcw tm S s)
theorem zwB_len {x : Int32} : ∀ b, (zwB x b).length = b := by
  intro b
  induction b with
  | zero => rfl
  | succ b ih => rw [zwB, List.length_cons, ih]
theorem zwrdB_len {S s : Nat} : (zwrdB tm S s).length ≤ 6 := by
  unfold zwrdB
  rw [zwB_len]
  exact zcw_in.1
theorem zsh0 (x : Int32) : x >>> (nI 0 &&& 31) = x := by
  have e : nI 0 &&& 31 = 0 := by decide
  rw [e]
  exact Int32.shiftRight_zero
theorem zib_sh (x : Int32) (b : Nat) : zbits (x >>> (nI b &&& 31)) 0 1 = [zib x b] := by
  show [zib (x >>> (nI b &&& 31)) 0] = [zib x b]
  unfold zib
  rw [zsh0]
theorem zib_sh1 (x : Int32) (b : Nat) : zbits ((x >>> (nI b &&& 31)) &&& 1) 0 1 = [zib x b] := by
  show [zib ((x >>> (nI b &&& 31)) &&& 1) 0] = [zib x b]
  unfold zib
  rw [zsh0, Int32.and_assoc, Int32.and_self]
theorem zL0_in {S s : Nat} (hs : s < S) (h : 0 < tm s) : s ∈ zL0 tm S := by
  have h1 : s ∈ zlst tm S := zlst_mem.mpr ⟨hs, h⟩
  unfold zL0
  rw [if_neg (fun z => by rw [List.length_eq_zero_iff.mp z] at h1; cases h1)]
  exact h1
theorem s_writeWord {c S nb s : Nat} {m : zM} {bs : List Bool} (hc : is_Code c S) (hc11 : 11 ≤ c) (hS : S ≤ 256) (hS0 : 0 < S) (hm : zMade c S nb tm m) (hs : s ∈ zL0 tm S) (hl : bs.length + 6 ≤ 8000) (hw : zWB m bs)
    (hQ : ∀ m', zWB m' (bs ++ zwrdB tm S s) → zF34 m m' → Q none m') : zR κ (d + 1) Y_Code_writeWord 0 [some (.inr c), some (.inr 3), some (.inl (nI s)), none] [] m Q := by
  obtain ⟨c0, c1, hlst, hb, hv⟩ := hm
  have hsS := zL0_lt hS0 hs
  have h6 := (zcw_in (tm := tm) (S := S) (s := s)).1
  refine w_Code_writeWord_0 hc ⟨fun g => absurd g (nI_pos (by omega)), fun _ => ⟨fun _ => ⟨vp_in_nI hsS (by omega), ?_⟩, fun g => ?_⟩⟩
  · rw [nI_clamp (by omega), hb s hsS]
    have key : ∀ (b : Nat) (m1 : zM) (bs1 : List Bool), b ≤ 6 → bs1.length + b ≤ 8000 → zF34 m m1 → zWB m1 bs1 → bs1 ++ zwB (zcv tm S s) b = bs ++ zwrdB tm S s → zR κ (d + 1) Y_Code_writeWord 22 [some (.inr c), some (.inr 3), some (.inl (nI s)), some (.inl (nI b - 1))] [] m1 Q := by
      intro b
      induction b with
      | zero =>
        intro m1 bs1 _ _ hF hw1 he
        rw [zwB, List.append_nil] at he
        rw [he] at hw1
        exact w_Code_writeWord_22 hc ⟨fun _ => hQ m1 hw1 hF, fun g => absurd (by decide) g⟩
      | succ b ih =>
        intro m1 bs1 hb6 hl1 hF hw1 he
        have e1 : nI (b + 1) - 1 = nI b := nI_sub (b := 1) (by omega)
        have e4 : m1 (c + 4) s = zcv tm S s := by rw [hF.1 (c + 4) (by omega) (by omega)]; exact hv s (zSo_perm.mem_iff.mpr hs)
        rw [e1]
        refine w_Code_writeWord_22 hc ⟨fun g => absurd g (nI_pos (by omega)), fun _ => ⟨vp_in_nI hsS (by omega), ?_⟩⟩
        rw [nI_clamp (by omega), e4]
        refine s_give (n := 1) (by decide) (by omega) hw1 (fun m2 g1 g2 => ⟨rfl, ?_⟩)
        have e5 : nI b + (-1) = nI b - 1 := by
          rw [show (-1 : Int32) = -1 from rfl, Int32.sub_eq_add_neg]
        rw [e5]
        refine ih m2 _ (by omega) (by rw [List.length_append, zbits_length]; omega) (hF.tr g2) g1 ?_
        rw [zib_sh, List.append_assoc]
        exact he
    exact key _ m bs h6 (by omega) zF34.rf hw rfl
  · rw [c0] at g
    exact absurd (nI_lt hsS (by omega)) g
theorem s_symWrite {B S s : Nat} {m : zM} {bs : List Bool} (hBS : B + S ≤ 1024) (hsS : s < S) (h3 : m 73 (B + s) = nI (zcw tm S s)) (h4 : m 74 (B + s) = zcv tm S s) (hl : bs.length + 6 ≤ 4000) (hw : zWM m bs)
    (hQ : ∀ m', zWM m' (bs ++ zwrdB tm S s) → zF68 m m' → Q none m') : zR κ (d + 1) Y_Mo_symbol 0 [some (.inr 68), some (.inl (nI (B + s))), some (.inl 1), none] [] m Q := by
  have h6 := (zcw_in (tm := tm) (S := S) (s := s)).1
  refine w_Mo_symbol_0 ⟨fun _ => ⟨vp_in_nI (by omega) (by decide), ?_⟩, fun g => absurd g (by decide)⟩
  rw [nI_clamp (by omega), h3]
  have key : ∀ (b : Nat) (m1 : zM) (bs1 : List Bool), b ≤ 6 → bs1.length + b ≤ 4000 → zF68 m m1 → zWM m1 bs1 → bs1 ++ zwB (zcv tm S s) b = bs ++ zwrdB tm S s → zR κ (d + 1) Y_Mo_symbol 24 [some (.inr 68), some (.inl (nI (B + s))), some (.inl 1), some (.inl (nI b - 1))] [] m1 Q := by
    intro b
    induction b with
    | zero =>
      intro m1 bs1 _ _ hF hw1 he
      rw [zwB, List.append_nil] at he
      rw [he] at hw1
      exact w_Mo_symbol_24 ⟨fun _ => hQ m1 hw1 hF, fun g => absurd (by decide) g⟩
    | succ b ih =>
      intro m1 bs1 hb6 hl1 hF hw1 he
      have e1 : nI (b + 1) - 1 = nI b := nI_sub (b := 1) (by omega)
      have e4 : m1 74 (B + s) = zcv tm S s := by rw [hF.1 74 (by decide) (by decide)]; exact h4
      rw [e1]
      refine w_Mo_symbol_24 ⟨fun g => absurd g (nI_pos (by omega)), fun _ => ⟨vp_in_nI (by omega) (by decide), ?_⟩⟩
      rw [nI_clamp (by omega), e4]
      refine s_number (n := 1) (by decide) (by omega) hw1 (fun m2 g1 g2 => ⟨rfl, ?_⟩)
      have e5 : nI b + (-1) = nI b - 1 := by
        rw [Int32.sub_eq_add_neg]
      rw [e5]
      refine ih m2 _ (by omega) (by rw [List.length_append, zbits_length]; omega) (hF.tr g2) g1 ?_
      rw [zib_sh1, List.append_assoc]
      exact he
  exact key _ m bs h6 (by omega) zF68.rf hw rfl
/-- the word of a symbol of the code at B -/
def zW (tm : Nat → Nat) (B S s : Nat) : List Bool := zwrdB (fun t => tm (B + t)) S s
theorem zW_len {B S s : Nat} : (zW tm B S s).length ≤ 6 := zwrdB_len
def zlw (T : List Nat) (map : Bool) (tm : Nat → Nat) : Nat → Nat → List Bool
  | 0, _ => []
  | n + 1, q => zW tm (if zsml2 T map q = true then 256 else 0) 256 (T.getD q 0) ++ zlw T map tm n (q + 1)
def zdw (tm : Nat → Nat) (s1 dd : Nat) : List Bool := if s1 = 0 then [] else zW tm 768 14 (s1 - 1) ++ zbits (nI dd - nI (zDB.getD (s1 - 1) 0)) 0 (zDT.getD (s1 - 1) 0)
def zcb (T : List Nat) (map : Bool) (tm : Nat → Nat) (c : zCmd) : List Bool := zW tm 512 32 (8 * zis c.2.1 + c.2.2.1) ++ (zbits (nI c.2.1 - nI (zIB.getD (zis c.2.1) 0)) 0 (zIT.getD (zis c.2.1) 0) ++ (zbits (nI c.2.2.2.1 - nI (zCB.getD c.2.2.1 0)) 0 (zCT.getD c.2.2.1 0) ++ (zlw T map tm c.2.1 c.1 ++ zdw tm c.2.2.2.2.1 c.2.2.2.2.2.1)))
theorem zlw_len : ∀ (n q : Nat), (zlw T map tm n q).length ≤ 6 * n := by
  intro n
  induction n with
  | zero => intro q; exact Nat.le_refl _
  | succ n ih =>
    intro q
    rw [zlw, List.length_append]
    have := ih (q + 1)
    have := zW_len (tm := tm) (B := if zsml2 T map q = true then 256 else 0) (S := 256) (s := T.getD q 0)
    omega
theorem zdw_len {s1 dd : Nat} (h : s1 ≤ 14) : (zdw tm s1 dd).length ≤ 12 := by
  unfold zdw
  split
  · exact Nat.zero_le _
  · rw [List.length_append, zbits_length]
    have := zW_len (tm := tm) (B := 768) (S := 14) (s := s1 - 1)
    have t := (tv4_nI ⟨s1 - 1, by omega⟩).2.2.1
    have t : zDT.getD (s1 - 1) 0 ≤ 6 := t
    omega
theorem zcb_len {c : zCmd} (h : zcok c) : (zcb T map tm c).length ≤ 29 + 6 * c.2.1 := by
  obtain ⟨o1, o2, o3, o4, o5, o6, o7, o8, o9, o10⟩ := h
  unfold zcb
  rw [List.length_append, List.length_append, List.length_append, List.length_append, zbits_length, zbits_length]
  have h1 := zW_len (tm := tm) (B := 512) (S := 32) (s := 8 * zis c.2.1 + c.2.2.1)
  have h2 := zlw_len (T := T) (map := map) (tm := tm) c.2.1 c.1
  have h3 := zdw_len (tm := tm) (dd := c.2.2.2.2.2.1) o4
  have t1 := (tv0_nI ⟨zis c.2.1, (zis_eq ⟨c.2.1, by omega⟩).2.1⟩).2.2.1
  have t1 : zIT.getD (zis c.2.1) 0 ≤ 6 := t1
  have t2 : zCT.getD c.2.2.1 0 ≤ 5 := (tv2_nI ⟨c.2.2.1, o2⟩).2.2.1
  omega
/-- the four codes of the class -/
def zM4 (tm : Nat → Nat) (m : zM) : Prop := ∀ c B S nb, zPc4 c B S nb → zMade c S nb (fun s => tm (B + s)) m
theorem zMade_f {c S nb : Nat} {m m' : zM} (hc : 11 ≤ c) (h : zF34 m m') (hm : zMade c S nb tm m) : zMade c S nb tm m' := by
  unfold zMade zLst
  rw [h.1 c (by omega) (by omega), h.1 (c + 1) (by omega) (by omega), h.1 (c + 3) (by omega) (by omega), h.1 (c + 4) (by omega) (by omega)]
  exact hm
theorem zM4_f {m m' : zM} (h : zF34 m m') (hm : zM4 tm m) : zM4 tm m' := fun c B S nb hp => zMade_f (zPc4_is hp).2.2.1 h (hm c B S nb hp)
theorem zTx_f {m m' : zM} (h : zF34 m m') (hT : zTx T m) : zTx T m' := zTx_of (h.1 1 (by decide) (by decide)) (h.1 2 (by decide) (by decide)) hT
theorem zPl_f {cs : List zCmd} {m m' : zM} (h : zF34 m m') (hP : zPl cs m) : zPl cs m' := by
  unfold zPl zcmdC
  rw [h.1 31 (by decide) (by decide), h.1 35 (by decide) (by decide), h.1 36 (by decide) (by decide), h.1 37 (by decide) (by decide), h.1 38 (by decide) (by decide), h.1 39 (by decide) (by decide), h.1 40 (by decide) (by decide)]
  exact hP
/-- the symbols that a command uses -/
theorem zuse {cs : List zCmd} {c : zCmd} (hc : c ∈ cs) : 0 < zctm T map cs (512 + (8 * zis c.2.1 + c.2.2.1)) ∧ (∀ j, j < c.2.1 → 0 < zctm T map cs (zli T map (c.1 + j))) ∧ (c.2.2.2.2.1 ≠ 0 → 0 < zctm T map cs (768 + (c.2.2.2.2.1 - 1))) := by
  refine ⟨?_, fun j hj => ?_, fun hs => ?_⟩
  · have h := zcc1_le (T := T) (map := map) (i := 512 + (8 * zis c.2.1 + c.2.2.1)) hc
    unfold zcc1 at h
    rw [if_pos rfl] at h
    omega
  · have h := zcc1_le (T := T) (map := map) (i := zli T map (c.1 + j)) hc
    have h2 := zltc_pos (T := T) (map := map) (n := c.2.1) (q := c.1) hj
    unfold zcc1 at h
    omega
  · have h := zcc1_le (T := T) (map := map) (i := 768 + (c.2.2.2.2.1 - 1)) hc
    unfold zcc1 at h
    rw [if_pos (show c.2.2.2.2.1 ≠ 0 ∧ 768 + (c.2.2.2.2.1 - 1) = 768 + (c.2.2.2.2.1 - 1) from ⟨hs, rfl⟩)] at h
    omega
set_option maxHeartbeats 1000000 in
theorem s_writeCmd {m : zM} {p e k : Nat} {cs : List zCmd} {bs : List Bool} (hT : zTx T m) (hP : zPl cs m) (hok : zCok p e cs) (he : e ≤ T.length) (hk : k < cs.length) (hM : zM4 (zctm T map cs) m) (hl : bs.length + 400 ≤ 8000) (hw : zWB m bs)
    (hQ : ∀ m', zWB m' (bs ++ zcb T map (zctm T map cs) (cs.getD k zcn0)) → zF34 m m' → Q none m') : zR κ (d + 3) Y_Packer_writeCommand 0 [some (.inr 6), some (.inr 1), some (.inr 3), some (.inl (nI map.toNat)), some (.inl (nI k)), none, none, none, none] [] m Q := by
  have h17 := hok.2.2
  have h96 := hT.1
  have hmem : cs.getD k zcn0 ∈ cs := by rw [zgd_get cs zcn0 hk]; exact List.getElem_mem _
  have hcok : zcok (cs.getD k zcn0) := hok.2.1 _ hmem
  have hcm := hP.2.1 k hk
  have hend := zch2_at cs p k hok.1 hk
  obtain ⟨u1, u2, u3⟩ := zuse (T := T) (map := map) hmem
  generalize hc : cs.getD k zcn0 = c at *
  obtain ⟨o1, o2, o3, o4, o5, o6, o7, o8, o9, o10⟩ := hcok
  obtain ⟨g35, g36, g37, g38, g39, g40⟩ := hcm
  obtain ⟨i1, i2, i3⟩ := zis_eq ⟨c.2.1, by omega⟩
  have i2 : zis c.2.1 < 4 := i2
  obtain ⟨t1, t2, t3, t4⟩ := tv0_nI ⟨zis c.2.1, i2⟩
  have t1 : tv_0.getD (zis c.2.1) 0 = nI (zIB.getD (zis c.2.1) 0) := t1
  have t2 : tv_1.getD (zis c.2.1) 0 = nI (zIT.getD (zis c.2.1) 0) := t2
  have t3 : zIT.getD (zis c.2.1) 0 ≤ 6 := t3
  obtain ⟨v1, v2, v3, v4⟩ := tv2_nI ⟨c.2.2.1, o2⟩
  have v1 : tv_2.getD c.2.2.1 0 = nI (zCB.getD c.2.2.1 0) := v1
  have v2 : tv_3.getD c.2.2.1 0 = nI (zCT.getD c.2.2.1 0) := v2
  have v3 : zCT.getD c.2.2.1 0 ≤ 5 := v3
  have hin : vp_in (nI k) 48 := vp_in_nI (by omega) (by decide)
  have hin4 : vp_in (nI (zis c.2.1)) 4 := vp_in_nI i2 (by decide)
  have hin8 : vp_in (nI c.2.2.1) 8 := vp_in_nI o2 (by decide)
  unfold zcb at hQ
  -- the literals and the distance
  have k100 : ∀ (r j : Nat) (m1 : zM) (bs1 : List Bool), j + r = c.2.1 → bs1.length + 6 * r + 12 ≤ 8000 → zF34 m m1 → zWB m1 bs1 → (∀ m', zWB m' (bs1 ++ (zlw T map (zctm T map cs) r (c.1 + j) ++ zdw (zctm T map cs) c.2.2.2.2.1 c.2.2.2.2.2.1)) → zF34 m m' → Q none m') → zR κ (d + 2 + 1) Y_Packer_writeCommand 100 [some (.inr 6), some (.inr 1), some (.inr 3), some (.inl (nI map.toNat)), some (.inl (nI k)), some (.inl (nI (zis c.2.1))), some (.inl (nI c.2.2.1)), some (.inl (nI j)), none] [] m1 Q := by
    intro r
    induction r with
    | zero =>
      intro j m1 bs1 hj hl1 hF hw1 hend1
      have e36 : m1 36 k = nI c.2.1 := by rw [hF.1 36 (by decide) (by decide)]; exact g36
      have e39 : m1 39 k = zsI c.2.2.2.2.1 := by rw [hF.1 39 (by decide) (by decide)]; exact g39
      have ej : j = c.2.1 := by omega
      subst ej
      refine w_Packer_writeCommand_100 is_Text_1 ?_
      rw [nI_clamp (by omega), e36, e39]
      refine ⟨hin, fun _ => ⟨hin, fun g => ?_, fun g => ?_⟩, fun g => absurd (Int32.le_refl _) g⟩
      · have hs := (zsI_none (by omega)).mp g
        refine hend1 m1 ?_ hF
        rw [zlw, hs]
        show zWB m1 (bs1 ++ ([] ++ zdw (zctm T map cs) 0 c.2.2.2.2.2.1))
        rw [zdw, if_pos rfl, List.append_nil, List.append_nil]
        exact hw1
      · have hs : ¬ c.2.2.2.2.1 = 0 := fun w => g ((zsI_none (by omega)).mpr w)
        have ezs : zsI c.2.2.2.2.1 = nI (c.2.2.2.2.1 - 1) := by unfold zsI; rw [if_neg hs]
        obtain ⟨y1, y2, y3, y4, y5⟩ := tv4_nI ⟨c.2.2.2.2.1 - 1, by omega⟩
        have y1 : tv_4.getD (c.2.2.2.2.1 - 1) 0 = nI (zDB.getD (c.2.2.2.2.1 - 1) 0) := y1
        have y2 : tv_5.getD (c.2.2.2.2.1 - 1) 0 = nI (zDT.getD (c.2.2.2.2.1 - 1) 0) := y2
        have y3 : zDT.getD (c.2.2.2.2.1 - 1) 0 ≤ 6 := y3
        have hin14 : vp_in (nI (c.2.2.2.2.1 - 1)) 14 := vp_in_nI (by omega) (by decide)
        have hz : zPc4 26 768 14 4 := Or.inr (Or.inr (Or.inr ⟨rfl, rfl, rfl, rfl⟩))
        have hwl := zW_len (tm := zctm T map cs) (B := 768) (S := 14) (s := c.2.2.2.2.1 - 1)
        unfold zW at hwl
        rw [ezs]
        refine s_writeWord (d := d + 1) (zPc4_is hz).1 (by decide) (by decide) (by decide) (zM4_f hF hM 26 768 14 4 hz) (zL0_in (show c.2.2.2.2.1 - 1 < 14 by omega) (u3 hs)) (by omega) hw1 (fun m2 a1 a2 => ⟨rfl, hin, hin14, hin14, ?_⟩)
        rw [nI_clamp (by omega), y1, y2, show m2 40 k = nI c.2.2.2.2.2.1 from by rw [(hF.tr a2).1 40 (by decide) (by decide)]; exact g40]
        refine s_give (by omega) (by rw [List.length_append]; omega) a1 (fun m3 b1 b2 => ⟨rfl, hend1 m3 ?_ ((hF.tr a2).tr b2)⟩)
        rw [zlw, zdw, if_neg hs, List.nil_append, ← List.append_assoc]
        exact b1
    | succ r ih =>
      intro j m1 bs1 hj hl1 hF hw1 hend1
      have e36 : m1 36 k = nI c.2.1 := by rw [hF.1 36 (by decide) (by decide)]; exact g36
      have e35 : m1 35 k = nI c.1 := by rw [hF.1 35 (by decide) (by decide)]; exact g35
      have hT1 := zTx_f hF hT
      have hb := zT_b (T := T) (i := c.1 + j) hT.2.2.2
      refine w_Packer_writeCommand_100 is_Text_1 ?_
      rw [nI_clamp (by omega), e36, e35, nI_add]
      refine ⟨hin, fun g => absurd g (nI_ge (by omega) (by omega)), fun _ => ⟨hin, r_litAt1 hT1 (by omega) ⟨_, rfl, r_get1 hT1 (by omega) ⟨_, rfl, ?_⟩⟩⟩⟩
      have hpos := u2 j (by omega)
      have hwl := zW_len (tm := zctm T map cs) (B := if zsml2 T map (c.1 + j) = true then 256 else 0) (S := 256) (s := T.getD (c.1 + j) 0)
      rw [zlw] at hend1
      -- both codes
      have go : ∀ c' B, zPc4 c' B 256 8 → B = (if zsml2 T map (c.1 + j) = true then 256 else 0) → (∃ fs, shT[c']? = some (.inr (1, fs))) → (∃ fs, shT[c']? = some (.inr (1, fs))) ∧ zR κ (d + 2) Y_Code_writeWord 0 [some (.inr c'), some (.inr 3), some (.inl (nI (T.getD (c.1 + j) 0))), none] [] m1 (fun r m7 => r = none ∧ zR κ (d + 2 + 1) Y_Packer_writeCommand 100 [some (.inr 6), some (.inr 1), some (.inr 3), some (.inl (nI map.toNat)), some (.inl (nI k)), some (.inl (nI (zis c.2.1))), some (.inl (nI c.2.2.1)), some (.inl (nI j + 1)), none] [] m7 Q) := by
        intro c' B hz hB hsh
        refine ⟨hsh, ?_⟩
        rw [← hB] at hend1 hwl
        unfold zW at hwl
        unfold zli at hpos
        rw [← hB] at hpos
        refine s_writeWord (d := d + 1) (zPc4_is hz).1 (zPc4_is hz).2.2.1 (by decide) (by decide) (zM4_f hF hM c' B 256 8 hz) (zL0_in hb hpos) (by omega) hw1 (fun m2 a1 a2 => ⟨rfl, ?_⟩)
        rw [nI_1]
        refine ih (j + 1) m2 _ (by omega) (by rw [List.length_append]; omega) (hF.tr a2) a1 (fun m3 b1 b2 => hend1 m3 ?_ b2)
        rw [List.append_assoc] at b1
        rw [List.append_assoc]
        exact b1
      by_cases hsm : zsml2 T map (c.1 + j) = true
      · rw [if_pos hsm] at go ⊢
        exact go 16 256 (Or.inr (Or.inl ⟨rfl, rfl, rfl, rfl⟩)) rfl ⟨_, rfl⟩
      · rw [if_neg hsm] at go ⊢
        exact go 11 0 (Or.inl ⟨rfl, rfl, rfl, rfl⟩) rfl ⟨_, rfl⟩
  have hz : zPc4 21 512 32 5 := Or.inr (Or.inr (Or.inl ⟨rfl, rfl, rfl, rfl⟩))
  have hwl := zW_len (tm := zctm T map cs) (B := 512) (S := 32) (s := 8 * zis c.2.1 + c.2.2.1)
  unfold zW at hwl
  refine w_Packer_writeCommand_0 is_Text_1 (s_insSym (by omega) g36 (by omega) ⟨_, rfl, hin, s_cmdSym (by omega) g36 (by omega) g37 ⟨_, rfl, ?_⟩⟩)
  refine s_writeWord (d := d + 1) (zPc4_is hz).1 (by decide) (by decide) (by decide) (hM 21 512 32 5 hz) (zL0_in (show 8 * zis c.2.1 + c.2.2.1 < 32 by omega) u1) (by omega) hw (fun m2 a1 a2 => ⟨rfl, hin, hin4, hin4, ?_⟩)
  rw [nI_clamp (by omega), nI_clamp (by omega), t1, t2, show m2 36 k = nI c.2.1 from by rw [a2.1 36 (by decide) (by decide)]; exact g36]
  refine s_give (by omega) (by rw [List.length_append]; omega) a1 (fun m3 b1 b2 => ⟨rfl, hin, ?_⟩)
  rw [g37]
  refine ⟨hin8, hin8, ?_⟩
  rw [nI_clamp (by omega), v1, v2, show m3 38 k = nI c.2.2.2.1 from by rw [(a2.tr b2).1 38 (by decide) (by decide)]; exact g38]
  refine s_give (by omega) (by rw [List.length_append, List.length_append, zbits_length]; omega) b1 (fun m4 c1 c2 => ⟨rfl, ?_⟩)
  refine k100 c.2.1 0 m4 _ (by omega) (by rw [List.length_append, List.length_append, List.length_append, zbits_length, zbits_length]; omega) ((a2.tr b2).tr c2) c1 (fun m' q1 q2 => hQ m' ?_ q2)
  rw [List.append_assoc, List.append_assoc, List.append_assoc, Nat.add_zero] at q1
  exact q1
end zWords
