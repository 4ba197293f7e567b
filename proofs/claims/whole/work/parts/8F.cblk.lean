/-! a block in bits; the class writes it in a way -/
section zCblk
variable {κ : zK} {d : Nat} {Q : Option zV → zM → Prop} {T : List Nat} {map : Bool} {tm : Nat → Nat} {p e : Nat} {cs : List zCmd}
def zcd (T : List Nat) (map : Bool) (cs : List zCmd) : List Bool := zbits (nI map.toNat) 0 1 ++ (zdsc (fun s => zctm T map cs (0 + s)) 256 8 ++ ((if map = true then zdsc (fun s => zctm T map cs (256 + s)) 256 8 else []) ++ (zdsc (fun s => zctm T map cs (512 + s)) 32 5 ++ (zdsc (fun s => zctm T map cs (768 + s)) 14 4 ++ zcbs T map (zctm T map cs) cs))))
def zrw (T : List Nat) : Nat → Nat → List Bool
  | 0, _ => []
  | n + 1, q => zbits (nI (T.getD q 0)) 0 8 ++ zrw T n (q + 1)
def zhd (T : List Nat) (p e way : Nat) : List Bool := (if e = T.length then zbits 1 0 2 else zbits 0 0 1) ++ (zbits (if way = 0 then 0 else 1) 0 1 ++ zbits (nI (e - p - 1)) 0 6)
/-- all bits up to the block's end -/
def zbkB (T : List Nat) (cs : List zCmd) (p e way : Nat) (bs : List Bool) : List Bool := if way = 0 then zpad (bs ++ zhd T p e way) ++ zrw T (e - p) p else (bs ++ zhd T p e way) ++ zcd T (decide (way = 2)) cs
theorem zrw_len : ∀ n q, (zrw T n q).length = 8 * n := by
  intro n
  induction n with
  | zero => intro q; rfl
  | succ n ih =>
    intro q
    rw [zrw, List.length_append, zbits_length, ih]
    omega
theorem zhd_len {way : Nat} : (zhd T p e way).length ≤ 9 := by
  unfold zhd
  rw [List.length_append, List.length_append, zbits_length, zbits_length]
  split <;> rw [zbits_length] <;> omega
theorem zcd_len (hok : zCok p e cs) (hpe : e ≤ p + 48) : (zcd T map cs).length ≤ 2596 := by
  have h1 := zbl_le hok hpe
  have h2 := zcbs_len (T := T) (map := map) (tm := zctm T map cs) cs hok.2.1
  have a1 := zdsc_len (tm := fun s => zctm T map cs (0 + s)) (S := 256) (nb := 8) (by decide)
  have a2 := zdsc_len (tm := fun s => zctm T map cs (256 + s)) (S := 256) (nb := 8) (by decide)
  have a3 := zdsc_len (tm := fun s => zctm T map cs (512 + s)) (S := 32) (nb := 5) (by decide)
  have a4 := zdsc_len (tm := fun s => zctm T map cs (768 + s)) (S := 14) (nb := 4) (by decide)
  unfold zcd
  rw [List.length_append, List.length_append, List.length_append, List.length_append, List.length_append, zbits_length]
  split
  · omega
  · rw [List.length_nil]
    omega
theorem zbkB_len {way : Nat} {bs : List Bool} (hok : zCok p e cs) (hpe : e ≤ p + 48) : (zbkB T cs p e way bs).length ≤ bs.length + 2605 ∧ (way = 0 → (zbkB T cs p e way bs).length ≤ bs.length + 400) := by
  have h1 := zhd_len (T := T) (p := p) (e := e) (way := way)
  unfold zbkB
  split
  · obtain ⟨p1, p2, p3⟩ := zpad_len (bs ++ zhd T p e way)
    rw [List.length_append] at p2
    rw [List.length_append, zrw_len]
    omega
  · have h2 := zcd_len (T := T) (map := decide (way = 2)) hok hpe
    rw [List.length_append, List.length_append]
    omega
/-- what a block of the class leaves alone -/
def zFz (m m' : zM) : Prop := (∀ q, q ≠ 3 → q ≠ 4 → (q < 11 ∨ 30 < q) → m' q = m q) ∧ ∀ k, k ≠ 2 → m' 3 k = m 3 k
theorem zFz.tr {m m' m'' : zM} (h : zFz m m') (h' : zFz m' m'') : zFz m m'' := ⟨fun q a b c => (h'.1 q a b c).trans (h.1 q a b c), fun k a => (h'.2 k a).trans (h.2 k a)⟩
theorem zFz.rf {m : zM} : zFz m m := ⟨fun _ _ _ _ => rfl, fun _ _ => rfl⟩
theorem zF34.z {m m' : zM} (h : zF34 m m') : zFz m m' := ⟨fun q a b _ => h.1 q a b, h.2⟩
theorem zTx_z {m m' : zM} (h : zFz m m') (hT : zTx T m) : zTx T m' := zTx_of (h.1 1 (by decide) (by decide) (by decide)) (h.1 2 (by decide) (by decide) (by decide)) hT
theorem zPl_z {m m' : zM} (h : zFz m m') (hP : zPl cs m) : zPl cs m' := by
  unfold zPl zcmdC
  rw [h.1 31 (by decide) (by decide) (by decide), h.1 35 (by decide) (by decide) (by decide), h.1 36 (by decide) (by decide) (by decide), h.1 37 (by decide) (by decide) (by decide), h.1 38 (by decide) (by decide) (by decide), h.1 39 (by decide) (by decide) (by decide), h.1 40 (by decide) (by decide) (by decide)]
  exact hP
theorem zMade_e {c c' S nb : Nat} {m m' : zM} (hne : c' + 4 < c ∨ c + 4 < c') (h : zFe c m m') (hm : zMade c' S nb tm m) : zMade c' S nb tm m' := by
  unfold zMade zLst
  rw [h.1 c' (by omega) (by omega) (by omega) (by omega), h.1 (c' + 1) (by omega) (by omega) (by omega) (by omega), h.1 (c' + 3) (by omega) (by omega) (by omega) (by omega), h.1 (c' + 4) (by omega) (by omega) (by omega) (by omega)]
  exact hm
theorem zCode_e {c c' n b : Nat} {m m' : zM} (hne : c' + 4 < c ∨ c + 4 < c') (h : zFe c m m') (hk : zCode c' n b m) : zCode c' n b m' :=
  zCode_of (h.1 c' (by omega) (by omega) (by omega) (by omega)) (h.1 (c' + 1) (by omega) (by omega) (by omega) (by omega)) (h.1 (c' + 3) (by omega) (by omega) (by omega) (by omega)) hk
theorem zMade.code {c S nb : Nat} {m : zM} (h : zMade c S nb tm m) : zCode c S nb m := ⟨h.1, h.2.1, _, h.2.2.1⟩
theorem zP1 : zPc4 11 0 256 8 := Or.inl ⟨rfl, rfl, rfl, rfl⟩
theorem zP2 : zPc4 16 256 256 8 := Or.inr (Or.inl ⟨rfl, rfl, rfl, rfl⟩)
theorem zP3 : zPc4 21 512 32 5 := Or.inr (Or.inr (Or.inl ⟨rfl, rfl, rfl, rfl⟩))
theorem zP4 : zPc4 26 768 14 4 := Or.inr (Or.inr (Or.inr ⟨rfl, rfl, rfl, rfl⟩))
theorem zM4.code {m : zM} (h : zM4 tm m) : zC4p m := ⟨(h _ _ _ _ zP1).code, (h _ _ _ _ zP2).code, (h _ _ _ _ zP3).code, (h _ _ _ _ zP4).code⟩
theorem s_makeAll {m : zM} (hC : zC4p m) (hct : zCt tm m) (htb : ∀ i, tm i ≤ 48) (hsum : ∀ B S nb, zBase B S nb → ztot (fun s => tm (B + s)) (zlst (fun s => tm (B + s)) S) ≤ 48)
    (hQ : ∀ m', zM4 tm m' → (∀ q, (q < 11 ∨ 30 < q) → m' q = m q) → Q none m') : zR κ (d + 3) Y_Codes_makeFromTimes 0 [some (.inr 10)] [] m Q := by
  obtain ⟨c1, c2, c3, c4⟩ := hC
  refine w_Codes_makeFromTimes_0 is_Codes_10 (s_makeFromTimes (tm := fun s => tm (0 + s)) (nb := 8) is_Code_11 (by decide) (by decide) c1 (zCt_row zP1 hct) (fun s => htb _) (hsum _ _ _ (zPc4_is zP1).2.1) (fun m1 a1 a2 => ⟨rfl, ?_⟩))
  refine s_makeFromTimes (tm := fun s => tm (256 + s)) (nb := 8) is_Code_16 (by decide) (by decide) (zCode_e (Or.inr (by decide)) a2 c2) (fun s hs => by rw [a2.1 18 (by decide) (by decide) (by decide) (by decide)]; exact zCt_row zP2 hct s hs) (fun s => htb _) (hsum _ _ _ (zPc4_is zP2).2.1) (fun m2 b1 b2 => ⟨rfl, ?_⟩)
  refine s_makeFromTimes (tm := fun s => tm (512 + s)) (nb := 5) is_Code_21 (by decide) (by decide) (zCode_e (Or.inr (by decide)) b2 (zCode_e (Or.inr (by decide)) a2 c3)) (fun s hs => by rw [b2.1 23 (by decide) (by decide) (by decide) (by decide), a2.1 23 (by decide) (by decide) (by decide) (by decide)]; exact zCt_row zP3 hct s hs) (fun s => htb _) (hsum _ _ _ (zPc4_is zP3).2.1) (fun m3 e1 e2 => ⟨rfl, ?_⟩)
  refine s_makeFromTimes (tm := fun s => tm (768 + s)) (nb := 4) is_Code_26 (by decide) (by decide) (zCode_e (Or.inr (by decide)) e2 (zCode_e (Or.inr (by decide)) b2 (zCode_e (Or.inr (by decide)) a2 c4))) (fun s hs => by rw [e2.1 28 (by decide) (by decide) (by decide) (by decide), b2.1 28 (by decide) (by decide) (by decide) (by decide), a2.1 28 (by decide) (by decide) (by decide) (by decide)]; exact zCt_row zP4 hct s hs) (fun s => htb _) (hsum _ _ _ (zPc4_is zP4).2.1) (fun m4 f1 f2 => ⟨rfl, hQ m4 ?_ (fun q hq => ?_)⟩)
  · intro c B S nb hp
    rcases hp with ⟨rfl, rfl, rfl, rfl⟩ | ⟨rfl, rfl, rfl, rfl⟩ | ⟨rfl, rfl, rfl, rfl⟩ | ⟨rfl, rfl, rfl, rfl⟩
    · exact zMade_e (Or.inl (by decide)) f2 (zMade_e (Or.inl (by decide)) e2 (zMade_e (Or.inl (by decide)) b2 a1))
    · exact zMade_e (Or.inl (by decide)) f2 (zMade_e (Or.inl (by decide)) e2 b1)
    · exact zMade_e (Or.inl (by decide)) f2 e1
    · exact f1
  · rw [f2.1 q (by omega) (by omega) (by omega) (by omega), e2.1 q (by omega) (by omega) (by omega) (by omega), b2.1 q (by omega) (by omega) (by omega) (by omega), a2.1 q (by omega) (by omega) (by omega) (by omega)]
set_option maxHeartbeats 1000000 in
theorem s_codedC {m : zM} {bs : List Bool} {x1 x4 x5 x6 : Int32} (hT : zTx T m) (hP : zPl cs m) (hok : zCok p e cs) (he : e ≤ T.length) (hpe : e ≤ p + 48) (hC : zC4p m) (hl : bs.length ≤ 4009) (hw : zWB m bs)
    (hQ : ∀ m', zWB m' (bs ++ zcd T map cs) → zFz m m' → zC4p m' → Q none m') : zR κ (d + 4) Y_Packer_writeInWay 92 [some (.inr 6), some (.inl x1), some (.inr 1), some (.inr 3), some (.inl x4), some (.inl x5), some (.inl x6), none, none] [.inl (nI map.toNat)] m Q := by
  have h1 := zbl_le hok hpe
  have a1 := zdsc_len (tm := fun s => zctm T map cs (0 + s)) (S := 256) (nb := 8) (by decide)
  have a2 := zdsc_len (tm := fun s => zctm T map cs (256 + s)) (S := 256) (nb := 8) (by decide)
  have a3 := zdsc_len (tm := fun s => zctm T map cs (512 + s)) (S := 32) (nb := 5) (by decide)
  have a4 := zdsc_len (tm := fun s => zctm T map cs (768 + s)) (S := 14) (nb := 4) (by decide)
  unfold zcd at hQ
  -- the last two descriptions and the commands
  have k150 : ∀ (m3 : zM) (bs3 : List Bool), bs3.length ≤ 6000 → zFz m m3 → zM4 (zctm T map cs) m3 → zWB m3 bs3 → (∀ m', zWB m' (bs3 ++ (zdsc (fun s => zctm T map cs (512 + s)) 32 5 ++ (zdsc (fun s => zctm T map cs (768 + s)) 14 4 ++ zcbs T map (zctm T map cs) cs))) → zFz m m' → zC4p m' → Q none m') → zR κ (d + 3 + 1) Y_Packer_writeInWay 150 [some (.inr 6), some (.inl x1), some (.inr 1), some (.inr 3), some (.inl x4), some (.inl x5), some (.inl x6), some (.inl (nI map.toNat)), none] [] m3 Q := by
    intro m3 bs3 hl3 hF3 hM3 hw3 hend
    refine w_Packer_writeInWay_150 is_Text_1 (s_writeDesc is_Code_21 (by decide) (by decide) (by decide) (by decide) (hM3 _ _ _ _ zP3) (by omega) hw3 (fun m4 b1 b2 => ⟨rfl, s_writeDesc is_Code_26 (by decide) (by decide) (by decide) (by decide) (zM4_f b2 hM3 _ _ _ _ zP4) (by rw [List.length_append]; omega) b1 (fun m5 e1 e2 => ⟨rfl, ?_⟩)⟩))
    have hF5 := b2.tr e2
    refine s_writeCmds (zTx_z (hF3.tr hF5.z) hT) (zPl_z (hF3.tr hF5.z) hP) hok he (zM4_f hF5 hM3) (by rw [List.length_append, List.length_append]; omega) e1 (fun m6 f1 f2 => hend m6 ?_ (hF3.tr (hF5.tr f2).z) (zM4_f (hF5.tr f2) hM3).code)
    rw [List.append_assoc, List.append_assoc] at f1
    exact f1
  have k119 : ∀ m2 : zM, zFz m m2 → zM4 (zctm T map cs) m2 → zWB m2 bs → zR κ (d + 3 + 1) Y_Packer_writeInWay 119 [some (.inr 6), some (.inl x1), some (.inr 1), some (.inr 3), some (.inl x4), some (.inl x5), some (.inl x6), some (.inl (nI map.toNat)), none] [.inl (nI map.toNat), .inr 3] m2 Q := by
    intro m2 hF2 hM2 hw2
    refine w_Packer_writeInWay_119 is_Text_1 (s_give (n := 1) (by decide) (by omega) hw2 (fun m3 b1 b2 => ⟨rfl, s_writeDesc is_Code_11 (by decide) (by decide) (by decide) (by decide) (zM4_f b2 hM2 _ _ _ _ zP1) (by rw [List.length_append, zbits_length]; omega) b1 (fun m4 e1 e2 => ⟨rfl, fun g => ?_, fun g => ?_⟩)⟩))
    · have hm : map = false := by
        cases map
        · rfl
        · exact absurd g (by decide)
      rw [if_neg (by rw [hm]; decide)] at hQ
      refine k150 m4 _ (by rw [List.length_append, List.length_append, zbits_length]; omega) (hF2.tr (b2.tr e2).z) (zM4_f (b2.tr e2) hM2) e1 (fun m' f1 f2 f3 => hQ m' ?_ f2 f3)
      rw [List.append_assoc, List.append_assoc] at f1
      rw [List.nil_append]
      exact f1
    · have hm : map = true := by
        cases map
        · exact absurd rfl g
        · rfl
      rw [if_pos hm] at hQ
      refine s_writeDesc is_Code_16 (by decide) (by decide) (by decide) (by decide) (zM4_f (b2.tr e2) hM2 _ _ _ _ zP2) (by rw [List.length_append, List.length_append, zbits_length]; omega) e1 (fun m5 g1 g2 => ⟨rfl, ?_⟩)
      refine k150 m5 _ (by rw [List.length_append, List.length_append, List.length_append, zbits_length]; omega) (hF2.tr ((b2.tr e2).tr g2).z) (zM4_f ((b2.tr e2).tr g2) hM2) g1 (fun m' f1 f2 f3 => hQ m' ?_ f2 f3)
      rw [List.append_assoc, List.append_assoc, List.append_assoc] at f1
      exact f1
  refine w_Packer_writeInWay_92 is_Text_1 (s_countSymbols hT hP hok he hC (fun m1 b1 b2 => ⟨rfl, s_makeAll (zC4p_n b2 hC) b1 (fun i => zctm_48 hT.2.2.2 hok hpe) (fun B S nb hb => zctm_sum hb hT.2.2.2 hok hpe) (fun m2 e1 e2 => ⟨rfl, ?_⟩)⟩))
  have hF2 : zFz m m2 := ⟨fun q _ _ q3 => by rw [e2 q q3, b2 q (by omega) (by omega) (by omega) (by omega)], fun k _ => by rw [e2 3 (by decide), b2 3 (by decide) (by decide) (by decide) (by decide)]⟩
  have hw2 : zWB m2 bs := by
    unfold zWB zbit
    rw [e2 3 (by decide), b2 3 (by decide) (by decide) (by decide) (by decide), e2 4 (by decide), b2 4 (by decide) (by decide) (by decide) (by decide)]
    exact hw
  have := k119 m2 hF2 e1 hw2
  refine ⟨fun g => ?_, fun g => ?_⟩
  · have hm : map = false := by
      cases map
      · rfl
      · exact absurd g (by decide)
    subst hm
    exact this
  · have hm : map = true := by
      cases map
      · exact absurd rfl g
      · rfl
    subst hm
    exact this
theorem s_writeRawC {m : zM} {bs : List Bool} (hT : zTx T m) (hpe : p ≤ e) (he : e ≤ T.length) (hl : bs.length ≤ 4009) (hw : zWB m bs)
    (hQ : ∀ m', zWB m' (zpad bs ++ zrw T (e - p) p) → zF34 m m' → Q none m') : zR κ (d + 2) Y_Packer_writeRaw 0 [some (.inr 6), some (.inr 1), some (.inr 3), some (.inl (nI p)), some (.inl (nI e)), none] [] m Q := by
  have h96 := hT.1
  refine w_Packer_writeRaw_0 is_Text_1 (s_giveZ hw (by omega) (fun m1 a1 a2 => ⟨rfl, ?_⟩))
  have hpl := zpad_len bs
  have key : ∀ (r q : Nat) (m2 : zM) (bs2 : List Bool), q + r = e → bs2.length + 8 * r ≤ 8000 → zF34 m m2 → zWB m2 bs2 → bs2 ++ zrw T r q = zpad bs ++ zrw T (e - p) p → zR κ (d + 1 + 1) Y_Packer_writeRaw 7 [some (.inr 6), some (.inr 1), some (.inr 3), some (.inl (nI p)), some (.inl (nI e)), some (.inl (nI q))] [] m2 Q := by
    intro r
    induction r with
    | zero =>
      intro q m2 bs2 hq hl2 hF hw2 he2
      rw [zrw, List.append_nil] at he2
      rw [he2] at hw2
      exact w_Packer_writeRaw_7 is_Text_1 ⟨fun _ => hQ m2 hw2 hF, fun g => absurd (nI_le (by omega) (by omega)) g⟩
    | succ r ih =>
      intro q m2 bs2 hq hl2 hF hw2 he2
      rw [zrw] at he2
      refine w_Packer_writeRaw_7 is_Text_1 ⟨fun g => absurd g (nI_ge (by omega) (by omega)), fun _ => r_get1 (zTx_f hF hT) (by omega) ⟨_, rfl, s_give (n := 8) (by decide) (by omega) hw2 (fun m3 b1 b2 => ⟨rfl, ?_⟩)⟩⟩
      rw [nI_1]
      refine ih (q + 1) m3 _ (by omega) (by rw [List.length_append, zbits_length]; omega) (hF.tr b2) b1 ?_
      rw [List.append_assoc]
      exact he2
  exact key (e - p) p m1 _ (by omega) (by omega) a2 a1 rfl
set_option maxHeartbeats 1000000 in
theorem s_inWay {m : zM} {bs : List Bool} {way : Nat} (hway : way ≤ 2) (hT : zTx T m) (hP : zPl cs m) (hok : zCok p e cs) (hlt : p < e) (he : e ≤ T.length) (hpe : e ≤ p + 48) (hC : zC4p m) (hl : bs.length ≤ 4000) (hw : zWB m bs)
    (hQ : ∀ m', zWB m' (zbkB T cs p e way bs) → zFz m m' → zC4p m' → Q none m') : zR κ (d + 4) Y_Packer_writeInWay 0 [some (.inr 6), some (.inl (nI way)), some (.inr 1), some (.inr 3), some (.inl (nI p)), some (.inl (nI e)), none, none, none] [] m Q := by
  have h96 := hT.1
  have hhl := zhd_len (T := T) (p := p) (e := e) (way := way)
  have e6 : nI e - nI p - 1 = nI (e - p - 1) := by
    rw [nI_sub (by omega)]
    exact nI_sub (b := 1) (by omega)
  have hk : ∀ m', zF34 m m' → zC4p m' := fun m' h => ⟨zCode_of (h.1 _ (by decide) (by decide)) (h.1 _ (by decide) (by decide)) (h.1 _ (by decide) (by decide)) hC.1, zCode_of (h.1 _ (by decide) (by decide)) (h.1 _ (by decide) (by decide)) (h.1 _ (by decide) (by decide)) hC.2.1, zCode_of (h.1 _ (by decide) (by decide)) (h.1 _ (by decide) (by decide)) (h.1 _ (by decide) (by decide)) hC.2.2.1, zCode_of (h.1 _ (by decide) (by decide)) (h.1 _ (by decide) (by decide)) (h.1 _ (by decide) (by decide)) hC.2.2.2⟩
  unfold zbkB at hQ
  -- behind the header
  have kbody : ∀ (x6 : Int32) (m1 : zM), zF34 m m1 → zWB m1 (bs ++ zhd T p e way) → ((¬ nI way = 0 → ((¬ nI way = 2 → zR κ (d + 3 + 1) Y_Packer_writeInWay 92 [some (.inr 6), some (.inl (nI way)), some (.inr 1), some (.inr 3), some (.inl (nI p)), some (.inl (nI e)), some (.inl x6), none, none] [.inl 0] m1 Q) ∧ (nI way = 2 → zR κ (d + 3 + 1) Y_Packer_writeInWay 92 [some (.inr 6), some (.inl (nI way)), some (.inr 1), some (.inr 3), some (.inl (nI p)), some (.inl (nI e)), some (.inl x6), none, none] [.inl 1] m1 Q))) ∧ (nI way = 0 → zR κ (d + 3) Y_Packer_writeRaw 0 [some (.inr 6), some (.inr 1), some (.inr 3), some (.inl (nI p)), some (.inl (nI e)), none] [] m1 (fun r m3 => r = none ∧ Q none m3))) := by
    intro x6 m1 hF hw1
    have hl1 : (bs ++ zhd T p e way).length ≤ 4009 := by
      rw [List.length_append]
      omega
    have hcoded : ¬ way = 0 → zR κ (d + 4) Y_Packer_writeInWay 92 [some (.inr 6), some (.inl (nI way)), some (.inr 1), some (.inr 3), some (.inl (nI p)), some (.inl (nI e)), some (.inl x6), none, none] [.inl (nI (decide (way = 2)).toNat)] m1 Q := by
      intro h0
      rw [if_neg h0] at hQ
      exact s_codedC (zTx_f hF hT) (zPl_f hF hP) hok he hpe (hk m1 hF) hl1 hw1 (fun m' a1 a2 a3 => hQ m' a1 (hF.z.tr a2) a3)
    refine ⟨fun g => ⟨fun g2 => ?_, fun g2 => ?_⟩, fun g => ?_⟩
    · have g : ¬ way = 0 := fun w => g (by rw [w]; rfl)
      have g2 : ¬ way = 2 := fun w => g2 (by rw [w]; rfl)
      have := hcoded g
      rw [decide_eq_false g2] at this
      exact this
    · have g2 : way = 2 := (nI_eq (by omega) (by decide)).mp g2
      have := hcoded (by omega)
      rw [decide_eq_true g2] at this
      exact this
    · have g : way = 0 := (nI_eq (by omega) (by decide)).mp g
      rw [if_pos g] at hQ
      exact s_writeRawC (d := d + 1) (zTx_f hF hT) (by omega) he hl1 hw1 (fun m' a1 a2 => ⟨rfl, hQ m' a1 (hF.tr a2).z (hk m' (hF.tr a2))⟩)
  have k50 : ∀ (x6 : Int32) (m1 : zM) (bs1 : List Bool), bs1.length ≤ 4002 → zF34 m m1 → zWB m1 bs1 → (∀ w : Int32, w = (if way = 0 then 0 else 1) → bs1 ++ (zbits w 0 1 ++ zbits (nI (e - p - 1)) 0 6) = bs ++ zhd T p e way) → ∀ s1 : Int32, s1 = (if way = 0 then 0 else 1) → zR κ (d + 3 + 1) Y_Packer_writeInWay 50 [some (.inr 6), some (.inl (nI way)), some (.inr 1), some (.inr 3), some (.inl (nI p)), some (.inl (nI e)), some (.inl x6), none, none] [.inl s1, .inr 3] m1 Q := by
    intro x6 m1 bs1 hl1 hF hw1 heq s1 hs1
    refine w_Packer_writeInWay_50 is_Text_1 (s_give (n := 1) (by decide) (by omega) hw1 (fun m2 a1 a2 => ⟨rfl, ?_⟩))
    rw [e6]
    refine s_give (n := 6) (by decide) (by rw [List.length_append, zbits_length]; omega) a1 (fun m3 b1 b2 => ⟨rfl, kbody x6 m3 ((hF.tr a2).tr b2) ?_⟩)
    rw [List.append_assoc, heq s1 hs1] at b1
    exact b1
  have k37 : ∀ (x6 s1 : Int32) (n : Nat), n ≤ 2 → zbits s1 0 n = (if e = T.length then zbits 1 0 2 else zbits 0 0 1) → zR κ (d + 3 + 1) Y_Packer_writeInWay 37 [some (.inr 6), some (.inl (nI way)), some (.inr 1), some (.inr 3), some (.inl (nI p)), some (.inl (nI e)), some (.inl x6), none, none] [.inl (nI n), .inl s1, .inr 3] m Q := by
    intro x6 s1 n hn hb
    refine w_Packer_writeInWay_37 is_Text_1 (s_give (by omega) (by omega) hw (fun m1 a1 a2 => ⟨rfl, ?_⟩))
    have heq : ∀ w : Int32, w = (if way = 0 then 0 else 1) → (bs ++ zbits s1 0 n) ++ (zbits w 0 1 ++ zbits (nI (e - p - 1)) 0 6) = bs ++ zhd T p e way := by
      intro w hw
      unfold zhd
      rw [hw, hb, List.append_assoc]
    have hl1 : (bs ++ zbits s1 0 n).length ≤ 4002 := by
      rw [List.length_append, zbits_length]
      omega
    refine ⟨fun g => k50 x6 m1 _ hl1 a2 a1 heq 1 ?_, fun g => k50 x6 m1 _ hl1 a2 a1 heq 0 ?_⟩
    · rw [if_neg (fun w => g (by rw [w]; rfl))]
    · rw [if_pos ((nI_eq (by omega) (by decide)).mp g)]
  refine w_Packer_writeInWay_0 is_Text_1 ?_
  rw [hT.2.1]
  refine ⟨fun g => w_Packer_writeInWay_14 is_Text_1 ⟨fun _ => ⟨fun _ => k37 0 0 1 (by decide) ?_, fun g => absurd rfl g⟩, fun g => absurd rfl g⟩, fun g => w_Packer_writeInWay_14 is_Text_1 ⟨fun g => absurd g (by decide), fun _ => ⟨fun g => absurd g (by decide), fun _ => k37 1 1 2 (by decide) ?_⟩⟩⟩
  · rw [if_neg (fun w => g (by rw [w]))]
  · rw [if_pos ((nI_eq (by omega) (by omega)).mp g)]
end zCblk
