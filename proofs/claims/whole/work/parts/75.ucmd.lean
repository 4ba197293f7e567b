/-! the class reads a command -/
section zUcmd
variable {κ : zK} {d : Nat} {Q : Option zV → zM → Prop} {f : Nat → Int32} {sz P : Nat}
theorem s_yieldCopy {m : zM} {o : List Nat} {limit dd mm : Nat} (ho : zDr o m) (hd1 : 1 ≤ dd) (hd : dd ≤ o.length) (hl : o.length ≤ limit) (hl96 : limit ≤ 96) (hm : mm ≤ 200)
    (h1 : o.length + mm ≤ limit → ∀ m', zDr (zcp dd mm o) m' → m' 44 1 = m 44 1 + 1 → (∀ i, i ≠ 1 → m' 44 i = m 44 i) → (∀ q, q ≠ 42 → q ≠ 43 → q ≠ 44 → m' q = m q) → Q (some (.inl 1)) m')
    (h2 : limit < o.length + mm → Q (some (.inl 0)) m) : zR κ (d + 2) Y_Unpacker_yieldCopy 0 [some (.inr 41), some (.inl (nI mm)), some (.inl (nI dd)), some (.inl (nI limit)), none] [] m Q := by
  have key : o.length + mm ≤ limit → ∀ (r k : Nat) (m1 : zM) (o1 : List Nat), k + r = mm → zDr o1 m1 → o1.length + r ≤ 96 → dd ≤ o1.length → zcp dd r o1 = zcp dd mm o → (∀ q, q ≠ 42 → q ≠ 43 → m1 q = m q) → zR κ (d + 2) Y_Unpacker_yieldCopy 18 [some (.inr 41), some (.inl (nI mm)), some (.inl (nI dd)), some (.inl (nI limit)), some (.inl (nI k))] [] m1 Q := by
    intro hle r
    induction r with
    | zero =>
      intro k m1 o1 hk a1 _ _ a4 a5
      refine w_Unpacker_yieldCopy_18 ⟨fun _ => ?_, fun z => absurd (nI_le (by omega) (by omega)) z⟩
      have a4 : o1 = zcp dd mm o := a4
      rw [a4] at a1
      exact h1 hle _ (zDr_of (zms_ne (by decide)) (zms_ne (by decide)) a1) (by rw [zms_ss, a5 44 (by decide) (by decide)]) (fun i hi => by rw [zms_nk hi, a5 44 (by decide) (by decide)]) (fun q q1 q2 q3 => by rw [zms_ne q3]; exact a5 q q1 q2)
    | succ r ih =>
      intro k m1 o1 hk a1 a2 a3 a4 a5
      refine w_Unpacker_yieldCopy_18 ⟨fun z => absurd z (nI_ge (by omega) (by omega)), fun _ => ?_⟩
      rw [a1.2.1, nI_sub a3]
      refine r_get a1 (by omega) ⟨_, rfl, ?_⟩
      refine r_add a1 (a1.2.2.2 _ (zget_mem (by omega))) (by omega) (fun m2 b1 b2 => ⟨1, rfl, ?_⟩)
      rw [nI_1]
      exact ih (k + 1) m2 _ (by omega) b1 (by rw [List.length_append, List.length_singleton]; omega) (by rw [List.length_append, List.length_singleton]; omega) a4 (fun q q1 q2 => (b2 q q1 q2).trans (a5 q q1 q2))
  refine w_Unpacker_yieldCopy_0 ⟨fun h => ?_, fun h => ?_⟩
  · rw [ho.2.1, nI_sub hl] at h
    have h := (nI_leI (by omega) (by omega)).mp h
    exact key (by omega) mm 0 m o (by omega) ho (by omega) hd rfl (fun _ _ _ => rfl)
  · rw [ho.2.1, nI_sub hl] at h
    refine h2 ?_
    rcases Nat.lt_or_ge limit (o.length + mm) with q | q
    · exact q
    · exact absurd (nI_le (by omega) (by omega)) h
theorem zby_nI : ∀ i : Fin 2, ∀ x : Fin 16, ∀ k : Fin 7, zby (i.val + 4) x.val k.val = nI (zby (i.val + 4) x.val k.val).toNatClampNeg ∧ (zby (i.val + 4) x.val k.val).toNatClampNeg < 256 := by decide +kernel
theorem zby_b {m x k : Nat} (hm : m = 4 ∨ m = 5) (hx : x < 16) (hk : k < 7) : zby m x k = nI (zby m x k).toNatClampNeg ∧ (zby m x k).toNatClampNeg < 256 := by
  rcases hm with rfl | rfl
  · exact zby_nI 0 ⟨x, hx⟩ ⟨k, hk⟩
  · exact zby_nI 1 ⟨x, hx⟩ ⟨k, hk⟩
theorem s_yieldWord {m : zM} {o : List Nat} {limit mm x : Nat} (ho : zDr o m) (hl : o.length ≤ limit) (hl96 : limit ≤ 96) (hm : mm ≤ 200) (hx : x ≤ 400)
    (h1 : (mm = 4 ∨ mm = 5) → x < 16 → o.length + zyo mm x ≤ limit → ∀ m', zDr (zwb mm x (zyo mm x) 0 o) m' → m' 44 2 = m 44 2 + 1 → (∀ i, i ≠ 2 → m' 44 i = m 44 i) → (∀ q, q ≠ 42 → q ≠ 43 → q ≠ 44 → m' q = m q) → Q (some (.inl 1)) m')
    (h2 : ¬ ((mm = 4 ∨ mm = 5) ∧ x < 16 ∧ o.length + zyo mm x ≤ limit) → Q (some (.inl 0)) m) : zR κ (d + 5) Y_Unpacker_yieldWord 0 [some (.inr 41), some (.inl (nI mm)), some (.inl (nI x)), some (.inl (nI limit)), none, none] [] m Q := by
  have k10 : (mm = 4 ∨ mm = 5) → zR κ (d + 5) Y_Unpacker_yieldWord 10 [some (.inr 41), some (.inl (nI mm)), some (.inl (nI x)), some (.inl (nI limit)), none, none] [] m Q := by
    intro h45
    refine w_Unpacker_yieldWord_10 ⟨fun z => ?_, fun z => ?_⟩
    · have hx16 : x < 16 := (nI_ltI (by omega) (by decide)).mp (show nI x < nI 16 from z)
      have hy7 : zyo mm x ≤ 6 := Nat.le_trans zyo_le (by omega)
      have key : o.length + zyo mm x ≤ limit → ∀ (r k : Nat) (m1 : zM) (o1 : List Nat), k + r = zyo mm x → zDr o1 m1 → o1.length + r ≤ 96 → zwb mm x r k o1 = zwb mm x (zyo mm x) 0 o → (∀ q, q ≠ 42 → q ≠ 43 → m1 q = m q) → zR κ (d + 5) Y_Unpacker_yieldWord 44 [some (.inr 41), some (.inl (nI mm)), some (.inl (nI x)), some (.inl (nI limit)), some (.inl (nI (zyo mm x))), some (.inl (nI k))] [] m1 Q := by
        intro hle r
        induction r with
        | zero =>
          intro k m1 o1 hk a1 _ a4 a5
          refine w_Unpacker_yieldWord_44 ⟨fun _ => ?_, fun z => absurd (nI_le (by omega) (by omega)) z⟩
          have a4 : o1 = zwb mm x (zyo mm x) 0 o := a4
          rw [a4] at a1
          exact h1 h45 hx16 hle _ (zDr_of (zms_ne (by decide)) (zms_ne (by decide)) a1) (by rw [zms_ss, a5 44 (by decide) (by decide)]) (fun i hi => by rw [zms_nk hi, a5 44 (by decide) (by decide)]) (fun q q1 q2 q3 => by rw [zms_ne q3]; exact a5 q q1 q2)
        | succ r ih =>
          intro k m1 o1 hk a1 a2 a4 a5
          refine w_Unpacker_yieldWord_44 ⟨fun z => absurd z (nI_ge (by omega) (by omega)), fun _ => ?_⟩
          refine s_Words_byteOf h45 hx16 (by omega) ⟨_, rfl, ?_⟩
          obtain ⟨b1, b2⟩ := zby_b (k := k) h45 hx16 (by omega)
          rw [b1]
          refine r_add a1 b2 (by omega) (fun m2 c1 c2 => ⟨1, rfl, ?_⟩)
          rw [nI_1]
          exact ih (k + 1) m2 _ (by omega) c1 (by rw [List.length_append, List.length_singleton]; omega) a4 (fun q q1 q2 => (c2 q q1 q2).trans (a5 q q1 q2))
      refine s_Words_yieldOf h45 hx16 ⟨_, rfl, fun h => ?_, fun h => ?_⟩
      · rw [ho.2.1, nI_sub hl] at h
        have h := (nI_leI (by omega) (by omega)).mp h
        exact key (by omega) (zyo mm x) 0 m o (by omega) ho (by omega) rfl (fun _ _ _ => rfl)
      · rw [ho.2.1, nI_sub hl] at h
        refine h2 (fun w => ?_)
        exact absurd (nI_le (by omega) (by omega)) h
    · exact h2 (fun w => z (show nI x < nI 16 from nI_lt w.2.1 (by decide)))
  refine w_Unpacker_yieldWord_0 ⟨fun z => k10 (Or.inl ((nI_eq (by omega) (by decide)).mp z)), fun z => ⟨fun z2 => ?_, fun z2 => k10 (Or.inr ((nI_eq (by omega) (by decide)).mp z2))⟩⟩
  refine h2 (fun w => ?_)
  rcases w.1 with w | w
  · exact z (by rw [w]; rfl)
  · exact z2 (by rw [w]; rfl)
/-- the class's state between commands -/
def zUs (f : Nat → Int32) (sz : Nat) (u : zU) (m : zM) : Prop := zS f sz u.1 false m ∧ zDr u.2.1 m ∧ zRr u.2.2.1 m ∧ zRp u.2.2.1 ∧ m 44 1 = nI u.2.2.2.1 ∧ m 44 2 = nI u.2.2.2.2.1 ∧ m 44 3 = nI u.2.2.2.2.2
set_option maxHeartbeats 1000000 in
theorem s_aft {m : zM} {o : List Nat} {r : zRg} {map : Bool} {ld : List (Nat × Nat)} {limit c mm n b w e : Nat} {x4 x5 : Int32} (hc : c < 8) (hs : zS f sz P false m) (ho : zDr o m) (hl : o.length ≤ limit) (h96 : limit ≤ 96) (hmm : mm ≤ 200) (hr : zRr r m) (hp : zRp r) (hk : zCk 63 14 ld m) (hb : m 44 1 = nI b) (hw : m 44 2 = nI w) (he : m 44 3 = nI e)
    (h1 : ∀ m' u', zaft f (8 * sz) ld limit limit c mm P o r b w e = some u' → zUs f sz u' m' → zFu m m' → m' 44 0 = m 44 0 → Q (some (.inl 1)) m')
    (h2 : ∀ m' P' ov', zaft f (8 * sz) ld limit limit c mm P o r b w e = none → zS f sz P' ov' m' → zFu m m' → Q (some (.inl 0)) m') :
    zR κ (d + 6) Y_Unpacker_readCommand 104 [some (.inr 41), some (.inr 3), some (.inl (nI map.toNat)), some (.inl (nI limit)), some (.inl x4), some (.inl x5), some (.inl (nI c)), some (.inl (nI n)), some (.inl (nI mm)), some (.inl (nI n))] [] m Q := by
  refine w_Unpacker_readCommand_104 ⟨fun _ => ⟨fun z => absurd (zov_f hs) z, fun _ => ⟨fun hne => ?_, fun heq => ⟨fun z => absurd (zov_f hs) z, fun _ => ?_⟩⟩⟩, fun z => absurd (Int32.le_refl _) z⟩
  · have hne' : ¬ o.length = limit := fun z => hne (by rw [ho.2.1, z])
    refine s_readDistance hc hs ho.2.1 ho.1 hr hp hk he (fun m1 s dd P1 e1 a1 a2 a3 a4 a5 a6 a7 a8 => ⟨nI dd, rfl, fun z => absurd (zov_f a3) z, fun _ => ?_⟩) (fun m1 y P1 a1 a2 a3 => ⟨y, rfl, fun _ => ?_, fun z => absurd z (zov_t a2)⟩)
    · have e42 : m1 42 = m 42 := a6 42 (by decide) (by decide) (by decide)
      have e43 : m1 43 = m 43 := a6 43 (by decide) (by decide) (by decide)
      have hF : zFu m m1 := fun q q1 q2 q3 q4 q5 => a6 q q1 q4 q5
      have hD : zDr o m1 := zDr_of e42 e43 ho
      have hz : zaft f (8 * sz) ld limit limit c mm P o r b w e = zend limit mm s dd P1 o r b w e1 := by
        unfold zaft
        rw [if_neg hne', a1]
      rw [hz] at h1 h2
      refine ⟨fun hge => ⟨fun hle => ?_, fun hgt => ?_⟩, fun hlt => ?_⟩
      · have hge := (nI_leI (by decide) (by omega)).mp (show nI 1 ≤ nI dd from hge)
        rw [hD.2.1] at hle
        have hle := (nI_leI (by omega) (by omega)).mp hle
        refine s_yieldCopy hD hge hle hl h96 hmm (fun hfit m2 b1 b2 b3 b4 => ⟨1, rfl, Or.inr rfl, ?_⟩) (fun hno => ⟨0, rfl, Or.inl rfl, ?_⟩)
        · have hze : zend limit mm s dd P1 o r b w e1 = some (P1, zcp dd mm o, if s = 0 then r else zrem r dd, b + 1, w, e1) := by
            unfold zend
            rw [if_neg (by omega), if_pos hle, if_neg (by omega)]
          refine h1 m2 _ hze ⟨zS_of a3 (b4 3 (by decide) (by decide) (by decide)) (b4 4 (by decide) (by decide) (by decide)), b1, ?_, ?_, ?_, ?_, ?_⟩ (fun q q1 q2 q3 q4 q5 => by rw [b4 q q2 q3 q4]; exact hF q q1 q2 q3 q4 q5) (by rw [b3 0 (by decide)]; exact a5 0 (by decide))
          · have e46 : m2 46 = m1 46 := b4 46 (by decide) (by decide) (by decide)
            show zRr (if s = 0 then r else zrem r dd) m2
            by_cases hs0 : s = 0
            · rw [if_pos hs0]
              exact zRr_of (by rw [e46]; exact a7 (Or.inl hs0)) hr
            · rw [if_neg hs0]
              obtain ⟨k0, k1, k2, k3⟩ := a8 hs0 hle
              obtain ⟨r0, r1, r2, r3⟩ := hr
              unfold zRr
              rw [e46]
              exact ⟨k0, k1.trans r0, k2.trans r1, k3.trans r2⟩
          · show zRp (if s = 0 then r else zrem r dd)
            by_cases hs0 : s = 0
            · rw [if_pos hs0]
              exact hp
            · rw [if_neg hs0]
              exact ⟨⟨hge, by have := ho.1; show dd ≤ 200; omega⟩, hp.1, hp.2.1, hp.2.2.1⟩
          · show m2 44 1 = nI (b + 1)
            rw [b2, a5 1 (by decide), hb, nI_1]
          · show m2 44 2 = nI w
            rw [b3 2 (by decide), a5 2 (by decide), hw]
          · show m2 44 3 = nI e1
            rw [b3 3 (by decide), a4]
        · refine h2 m1 P1 false ?_ a3 hF
          unfold zend
          rw [if_neg (by omega), if_pos hle, if_pos hno]
      · have hge := (nI_leI (by decide) (by omega)).mp (show nI 1 ≤ nI dd from hge)
        rw [hD.2.1] at hgt ⊢
        have hgt : o.length < dd := by
          rcases Nat.lt_or_ge o.length dd with q | q
          · exact q
          · exact absurd (nI_le q (by have := ho.1; omega)) hgt
        have ex : nI dd - nI o.length - 1 = nI (dd - o.length - 1) := by
          rw [nI_sub (by omega)]
          exact nI_sub (b := 1) (by omega)
        rw [ex]
        refine s_yieldWord hD hl h96 hmm (by omega) (fun z1 z2 z3 m2 b1 b2 b3 b4 => ⟨1, rfl, Or.inr rfl, ?_⟩) (fun hno => ⟨0, rfl, Or.inl rfl, ?_⟩)
        · have hze : zend limit mm s dd P1 o r b w e1 = some (P1, zwb mm (dd - o.length - 1) (zyo mm (dd - o.length - 1)) 0 o, r, b, w + 1, e1) := by
            unfold zend
            rw [if_neg (by omega), if_neg (by omega), if_pos ⟨z1, z2, z3⟩]
          refine h1 m2 _ hze ⟨zS_of a3 (b4 3 (by decide) (by decide) (by decide)) (b4 4 (by decide) (by decide) (by decide)), b1, ?_, hp, ?_, ?_, ?_⟩ (fun q q1 q2 q3 q4 q5 => by rw [b4 q q2 q3 q4]; exact hF q q1 q2 q3 q4 q5) (by rw [b3 0 (by decide)]; exact a5 0 (by decide))
          · exact zRr_of (by rw [b4 46 (by decide) (by decide) (by decide)]; exact a7 (Or.inr hgt)) hr
          · show m2 44 1 = nI b
            rw [b3 1 (by decide), a5 1 (by decide), hb]
          · show m2 44 2 = nI (w + 1)
            rw [b2, a5 2 (by decide), hw, nI_1]
          · show m2 44 3 = nI e1
            rw [b3 3 (by decide), a4]
        · refine h2 m1 P1 false ?_ a3 hF
          unfold zend
          rw [if_neg (by omega), if_neg (by omega), if_neg hno]
      · refine h2 m1 P1 false ?_ a3 hF
        unfold zend
        rw [if_pos]
        rcases Nat.lt_or_ge dd 1 with q | q
        · exact q
        · exact absurd (show nI 1 ≤ nI dd from nI_le q (by omega)) hlt
    · refine h2 m1 P1 true ?_ a2 a3
      unfold zaft
      rw [if_neg hne', a1]
  · have heq' : o.length = limit := (nI_eq (by omega) (by omega)).mp (by rw [← ho.2.1]; exact heq)
    have hz : zaft f (8 * sz) ld limit limit c mm P o r b w e = some (P, o, r, b, w, e) := by
      unfold zaft
      rw [if_pos heq']
    exact h1 m _ hz ⟨hs, ho, hr, hp, hb, hw, he⟩ zFu.rf rfl
theorem zy_shr : ∀ s : Fin 32, nI s.val >>> (3 : Int32) = nI (s.val / 8) ∧ nI s.val &&& 7 = nI (s.val % 8) := by decide +kernel
theorem tv0_nI : ∀ i : Fin 4, tv_0.getD i.val 0 = nI (zIB.getD i.val 0) ∧ tv_1.getD i.val 0 = nI (zIT.getD i.val 0) ∧ zIT.getD i.val 0 ≤ 6 ∧ zIB.getD i.val 0 ≤ 6 := by decide +kernel
theorem tv2_nI : ∀ i : Fin 8, tv_2.getD i.val 0 = nI (zCB.getD i.val 0) ∧ tv_3.getD i.val 0 = nI (zCT.getD i.val 0) ∧ zCT.getD i.val 0 ≤ 5 ∧ zCB.getD i.val 0 ≤ 26 := by decide +kernel
set_option maxHeartbeats 2000000 in
theorem s_readCommand {m : zM} {u : zU} {map : Bool} {K : zCo} {limit : Nat} (hu : zUs f sz u m) (hK : zKs map K m) (hlt : u.2.1.length < limit) (h96 : limit ≤ 96)
    (h1 : ∀ m' u', zcmd f (8 * sz) K map limit limit u = some u' → zUs f sz u' m' → zFu m m' → m' 44 0 = m 44 0 → Q (some (.inl 1)) m')
    (h2 : ∀ m' P' ov', zcmd f (8 * sz) K map limit limit u = none → zS f sz P' ov' m' → zFu m m' → Q (some (.inl 0)) m') :
    zR κ (d + 6) Y_Unpacker_readCommand 0 [some (.inr 41), some (.inr 3), some (.inl (nI map.toNat)), some (.inl (nI limit)), none, none, none, none, none, none] [] m Q := by
  obtain ⟨P, o, r, b, w, e⟩ := u
  obtain ⟨hs, ho, hr, hp, hb, hw, he⟩ := hu
  have hlt : o.length < limit := hlt
  have hs : zS f sz P false m := hs
  have ho : zDr o m := ho
  have hr : zRr r m := hr
  have hp : zRp r := hp
  have hb : m 44 1 = nI b := hb
  have hw : m 44 2 = nI w := hw
  have he : m 44 3 = nI e := he
  obtain ⟨⟨L, hL⟩, hg⟩ := hK.2.2.1
  refine w_Unpacker_readCommand_0 (r_word is_Code_58 (by decide) (by decide) hL hg hs (fun y P1 ov1 m1 a1 a2 a3 _ a5 => ⟨y, rfl, fun hne => ?_, fun heq => ?_⟩))
  · obtain ⟨s, hs32, rfl⟩ : ∃ s, s < 32 ∧ y = nI s := by
      rcases a1 with z | z
      · exact absurd z hne
      · exact z
    obtain ⟨y1, y2⟩ := zy_shr ⟨s, hs32⟩
    have y1 : nI s >>> (3 : Int32) = nI (s / 8) := y1
    have y2 : nI s &&& 7 = nI (s % 8) := y2
    have hs4 : s / 8 < 4 := by omega
    have hs8 : s % 8 < 8 := by omega
    obtain ⟨t1, t2, t3, t4⟩ := tv0_nI ⟨s / 8, hs4⟩
    obtain ⟨t5, t6, t7, t8⟩ := tv2_nI ⟨s % 8, hs8⟩
    have t1 : tv_0.getD (s / 8) 0 = nI (zIB.getD (s / 8) 0) := t1
    have t2 : tv_1.getD (s / 8) 0 = nI (zIT.getD (s / 8) 0) := t2
    have t3 : zIT.getD (s / 8) 0 ≤ 6 := t3
    have t4 : zIB.getD (s / 8) 0 ≤ 6 := t4
    have t5 : tv_2.getD (s % 8) 0 = nI (zCB.getD (s % 8) 0) := t5
    have t6 : tv_3.getD (s % 8) 0 = nI (zCT.getD (s % 8) 0) := t6
    have t7 : zCT.getD (s % 8) 0 ≤ 5 := t7
    have t8 : zCB.getD (s % 8) 0 ≤ 26 := t8
    rw [y1, y2, nI_clamp (show s / 8 < 2 ^ 31 by omega), nI_clamp (show s % 8 < 2 ^ 31 by omega), t1, t2, t5, t6]
    have hS1 : zS f sz P1 ov1 (zms m1 44 3 (m1 44 3 + 1)) := zS_of a2 (zms_ne (by decide)) (zms_ne (by decide))
    have e1 : (zms m1 44 3 (m1 44 3 + 1)) 44 3 = nI (e + 1) := by rw [zms_ss, a3 44 (by decide), he, nI_1]
    have hF1 : ∀ q, q ≠ 3 → q ≠ 44 → (zms m1 44 3 (m1 44 3 + 1)) q = m q := fun q q1 q2 => by rw [zms_ne q2, a3 q q1]
    have hG1 : ∀ i, i ≠ 3 → (zms m1 44 3 (m1 44 3 + 1)) 44 i = m 44 i := fun i hi => by rw [zms_nk hi, a3 44 (by decide)]
    generalize zms m1 44 3 (m1 44 3 + 1) = m2 at hS1 e1 hF1 hG1 ⊢
    refine ⟨vp_in_nI hs4 (by decide), vp_in_nI hs4 (by decide), ?_⟩
    refine r_take (by omega) hS1 (fun v P2 ov2 m3 b1 b2 b3 b4 => ⟨nI v, rfl, vp_in_nI hs8 (by decide), vp_in_nI hs8 (by decide), ?_⟩)
    have hv : v < 64 := Nat.lt_of_lt_of_le b1 (Nat.pow_le_pow_right (by decide) t3)
    refine r_take (by omega) b2 (fun x P3 ov3 m4 c1 c2 c3 c4 => ⟨nI x, rfl, ?_⟩)
    have hx : x < 32 := Nat.lt_of_lt_of_le c1 (Nat.pow_le_pow_right (by decide) t7)
    have e4 : ∀ q, q ≠ 3 → m4 q = m2 q := fun q hq => (c3 q hq).trans (b3 q hq)
    have hF4 : zFu m m4 := fun q q1 q2 q3 q4 q5 => by rw [e4 q q1]; exact hF1 q q1 q4
    have hD4 : zDr o m4 := zDr_of (by rw [e4 42 (by decide)]; exact hF1 42 (by decide) (by decide)) (by rw [e4 43 (by decide)]; exact hF1 43 (by decide) (by decide)) ho
    have hK4 : zKs map K m4 := zKs_of hF4 hK
    rw [nI_add, nI_add]
    -- a stream that ended
    have hbad : ov3 = true → zcmd f (8 * sz) K map limit limit (P, o, r, b, w, e) = none → ((nI (zIB.getD (s / 8) 0 + v) ≤ nI limit - m4 42 1 → zR κ (d + 5 + 1) Y_Unpacker_readCommand 104 [some (.inr 41), some (.inr 3), some (.inl (nI map.toNat)), some (.inl (nI limit)), some (.inl (nI s)), some (.inl (nI (s / 8))), some (.inl (nI (s % 8))), some (.inl (nI (zIB.getD (s / 8) 0 + v))), some (.inl (nI (zCB.getD (s % 8) 0 + x))), some (.inl 0)] [] m4 Q) ∧ (¬ nI (zIB.getD (s / 8) 0 + v) ≤ nI limit - m4 42 1 → Q (some (.inl 0)) m4)) := by
      intro g1 g2
      subst g1
      exact ⟨fun _ => s_lits_bad (by omega) (zIB.getD (s / 8) 0 + v) 0 m4 P3 o.length (by omega) c2 hD4.2.1 hD4.1 hK4 (fun m' P' k1 k2 => h2 m' P' true g2 k1 (hF4.tr k2)), fun _ => h2 m4 P3 true g2 c2 hF4⟩
    rcases a5 rfl with ⟨s', g1, g2, g3, g4⟩ | ⟨g1, g2⟩
    · have es : s' = s := ((nI_eq (by omega) (by omega)).mp g2).symm
      subst es
      subst g4
      rcases b4.2 rfl with ⟨g5, g6⟩ | ⟨g5, g6⟩
      · subst g6
        rcases c4.2 rfl with ⟨g7, g8⟩ | ⟨g7, g8⟩
        · subst g8
          have hz0 : zcmd f (8 * sz) K map limit limit (P, o, r, b, w, e) = (if limit < o.length + (zIB.getD (s' / 8) 0 + v) then none else match zlits f (8 * sz) K map (zIB.getD (s' / 8) 0 + v) P3 o with | none => none | some (P4, o1) => zaft f (8 * sz) K.2.2.2 limit limit (s' % 8) (zCB.getD (s' % 8) 0 + x) P4 o1 r b w (e + 1 + (zIB.getD (s' / 8) 0 + v))) := by
            unfold zcmd
            rw [g3]
            show (match zrd f (8 * sz) P1 (zIT.getD (s' / 8) 0) with | none => none | some (v, P2) => _) = _
            rw [g5]
            show (match zrd f (8 * sz) P2 (zCT.getD (s' % 8) 0) with | none => none | some (v, P2) => _) = _
            rw [g7] <;> rfl
          refine ⟨fun hn => ?_, fun hn => ?_⟩
          · rw [hD4.2.1, nI_sub (by omega)] at hn
            have hn := (nI_leI (by omega) (by omega)).mp hn
            rw [if_neg (by omega)] at hz0
            refine s_lits (by omega) (zIB.getD (s' / 8) 0 + v) 0 m4 P3 o (e + 1) (by omega) c2 hD4 (by omega) hK4 (by rw [e4 44 (by decide)]; exact e1) ?_ ?_
            · intro m5 P5 o5 k1 k2 k3 k4 k5 k6
              rw [k1] at hz0
              have hz0 : zcmd f (8 * sz) K map limit limit (P, o, r, b, w, e) = zaft f (8 * sz) K.2.2.2 limit limit (s' % 8) (zCB.getD (s' % 8) 0 + x) P5 o5 r b w (e + 1 + (zIB.getD (s' / 8) 0 + v)) := hz0
              rw [hz0] at h1 h2
              have hF5 : zFu m m5 := fun q q1 q2 q3 q4 q5 => (k5 q q1 q2 q3 q4).trans (hF4 q q1 q2 q3 q4 q5)
              have e44 : ∀ i, i ≠ 3 → m5 44 i = m 44 i := fun i hi => by rw [k6 i hi, e4 44 (by decide)]; exact hG1 i hi
              have h46 : m5 46 = m 46 := by
                rw [k5 46 (by decide) (by decide) (by decide) (by decide), e4 46 (by decide)]
                exact hF1 46 (by decide) (by decide)
              have hlen := zlits_len _ _ _ k1
              refine s_aft hs8 k2 k3 (by omega) h96 (by omega) (zRr_of h46 hr) hp (zKs_of hF5 hK).2.2.2 (by rw [e44 1 (by decide)]; exact hb) (by rw [e44 2 (by decide)]; exact hw) k4 (fun m' u' q1 q2 q3 q4 => h1 m' u' q1 q2 (hF5.tr q3) (by rw [q4]; exact e44 0 (by decide))) (fun m' P' ov' q1 q2 q3 => h2 m' P' ov' q1 q2 (hF5.tr q3))
            · intro m5 P5 k1 k2 k3
              rw [k1] at hz0
              exact h2 m5 P5 true hz0 k2 (hF4.tr k3)
          · rw [hD4.2.1, nI_sub (by omega)] at hn
            rw [if_pos (by
              rcases Nat.lt_or_ge limit (o.length + (zIB.getD (s' / 8) 0 + v)) with q | q
              · exact q
              · exact absurd (nI_le (by omega) (by omega)) hn)] at hz0
            exact h2 m4 P3 false hz0 c2 hF4
        · refine hbad g8 ?_
          unfold zcmd
          rw [g3]
          show (match zrd f (8 * sz) P1 (zIT.getD (s' / 8) 0) with | none => none | some (v, P2) => _) = _
          rw [g5]
          show (match zrd f (8 * sz) P2 (zCT.getD (s' % 8) 0) with | none => none | some (v, P2) => _) = _
          rw [g7]
      · refine hbad (c4.1 g6) ?_
        unfold zcmd
        rw [g3]
        show (match zrd f (8 * sz) P1 (zIT.getD (s' / 8) 0) with | none => none | some (v, P2) => _) = _
        rw [g5]
    · refine hbad (c4.1 (b4.1 g2)) ?_
      unfold zcmd
      rw [g1]
  · rcases a5 rfl with ⟨s, g1, g2, g3, g4⟩ | ⟨g1, g2⟩
    · rw [heq] at g2
      exact absurd g2 (zneg_nI' (by omega))
    · refine h2 m1 P1 ov1 ?_ a2 (zFu_3 a3)
      unfold zcmd
      rw [g1]
end zUcmd
