/-! the class reads raw blocks and the whole stream -/
section zUall
variable {κ : zK} {d : Nat} {Q : Option zV → zM → Prop} {f : Nat → Int32} {sz P : Nat}
theorem zpdd_in {N P : Nat} (h : P ≤ 8 * N) : P + (8 - P % 8) % 8 ≤ 8 * N := by omega
theorem s_zeros {m : zM} (hs : zS f sz P false m)
    (h1 : ∀ m' P', zpdd f (8 * sz) P = some P' → zS f sz P' false m' → (∀ q, q ≠ 3 → m' q = m q) → Q (some (.inl 1)) m')
    (h2 : ∀ m' P' ov', zpdd f (8 * sz) P = none → zS f sz P' ov' m' → (∀ q, q ≠ 3 → m' q = m q) → Q (some (.inl 0)) m') :
    zR κ (d + 1) Y_BitStream_takeZerosToByteEnd 0 [some (.inr 3), none] [] m Q := by
  refine w_BitStream_takeZerosToByteEnd_0 ?_
  have hP : P ≤ 8 * sz := hs.2.1
  have h200 : sz ≤ 200 := hs.1
  rw [hs.2.2.2.2.2.1, zneg7 (by omega)]
  refine r_take (by omega) hs (fun v P1 ov1 m1 a1 a2 a3 a4 => ⟨nI v, rfl, ?_⟩)
  have hv : v < 2 ^ 7 := Nat.lt_of_lt_of_le a1 (Nat.pow_le_pow_right (by decide) (by omega))
  rcases a4.2 rfl with ⟨g1, g2⟩ | ⟨g1, g2⟩
  · subst g2
    refine ⟨fun z => h2 m1 P1 false ?_ a2 a3, fun z => h1 m1 P1 ?_ a2 a3⟩
    · unfold zpdd
      rw [g1]
      exact if_neg (fun w => z (by rw [w]; rfl))
    · unfold zpdd
      rw [g1]
      exact if_pos ((nI_eq (by omega) (by decide)).mp z)
  · unfold zrd at g1
    rw [if_pos (zpdd_in hP)] at g1
    cases g1
theorem s_raw_bad {limit : Nat} (hl : limit ≤ 200) : ∀ (r k : Nat) (m : zM) (P j : Nat), k + r = limit → zS f sz P true m → m 42 1 = nI j → j ≤ 96 → (∀ m' P', zS f sz P' true m' → zFu m m' → Q (some (.inl 0)) m') →
    zR κ (d + 2) Y_Unpacker_readRaw 17 [some (.inr 41), some (.inr 3), some (.inl (nI limit)), some (.inl (nI k))] [] m Q := by
  intro r
  induction r with
  | zero =>
    intro k m P j hk hs _ _ hQ
    exact w_Unpacker_readRaw_17 ⟨fun _ => ⟨fun _ => hQ m P hs zFu.rf, fun z => absurd z (zov_t hs)⟩, fun z => absurd (nI_le (by omega) (by omega)) z⟩
  | succ r ih =>
    intro k m P j hk hs hj hj96 hQ
    refine w_Unpacker_readRaw_17 ⟨fun z => absurd z (nI_ge (by omega) (by omega)), fun _ => ?_⟩
    refine r_take (n := 8) (by decide) hs (fun v P1 ov1 m1 a1 a2 a3 a4 => ⟨nI v, rfl, ?_⟩)
    rw [a4.1 rfl] at a2
    refine r_add_any (by rw [a3 42 (by decide)]; exact hj) hj96 (fun y2 m2 j2 b1 b2 b3 => ⟨y2, rfl, ?_⟩)
    have hF : zFu m m2 := fun q q1 q2 q3 q4 q5 => by rw [b3 q q2 q3, a3 q q1]
    rw [nI_1]
    exact ih (k + 1) m2 P1 j2 (by omega) (zS_of a2 (b3 3 (by decide) (by decide)) (b3 4 (by decide) (by decide))) b1 b2 (fun m' P2 c1 c2 => hQ m' P2 c1 (hF.tr c2))
theorem s_raw {limit : Nat} {tot : Option (Nat × List Nat)} {m0 : zM} (hl : limit ≤ 96)
    (h1 : ∀ m' P' o', tot = some (P', o') → zS f sz P' false m' → zDr o' m' → (∀ q, q ≠ 3 → q ≠ 42 → q ≠ 43 → m' q = m0 q) → Q (some (.inl 1)) m')
    (h2 : ∀ m' P', tot = none → zS f sz P' true m' → zFu m0 m' → Q (some (.inl 0)) m') : ∀ (r k : Nat) (m : zM) (P : Nat) (o : List Nat), k + r = limit → o.length = k → zS f sz P false m → zDr o m → (∀ q, q ≠ 3 → q ≠ 42 → q ≠ 43 → m q = m0 q) → zraw f (8 * sz) r P o = tot →
    zR κ (d + 2) Y_Unpacker_readRaw 17 [some (.inr 41), some (.inr 3), some (.inl (nI limit)), some (.inl (nI k))] [] m Q := by
  intro r
  induction r with
  | zero =>
    intro k m P o hk ho hs hD hF ht
    exact w_Unpacker_readRaw_17 ⟨fun _ => ⟨fun z => absurd (zov_f hs) z, fun _ => h1 m P o ht.symm hs hD hF⟩, fun z => absurd (nI_le (by omega) (by omega)) z⟩
  | succ r ih =>
    intro k m P o hk ho hs hD hF ht
    refine w_Unpacker_readRaw_17 ⟨fun z => absurd z (nI_ge (by omega) (by omega)), fun _ => ?_⟩
    refine r_take (n := 8) (by decide) hs (fun v P1 ov1 m1 a1 a2 a3 a4 => ⟨nI v, rfl, ?_⟩)
    have hv : v < 256 := a1
    unfold zraw at ht
    rcases a4.2 rfl with ⟨g1, g2⟩ | ⟨g1, g2⟩
    · subst g2
      rw [g1] at ht
      refine r_add (zDr_of (a3 42 (by decide)) (a3 43 (by decide)) hD) hv (by omega) (fun m2 b1 b2 => ⟨1, rfl, ?_⟩)
      rw [nI_1]
      exact ih (k + 1) m2 P1 (o ++ [v]) (by omega) (by rw [List.length_append, List.length_singleton]; omega) (zS_of a2 (b2 3 (by decide) (by decide)) (b2 4 (by decide) (by decide))) b1 (fun q q1 q2 q3 => by rw [b2 q q2 q3, a3 q q1]; exact hF q q1 q2 q3) ht
    · subst g2
      rw [g1] at ht
      refine r_add_any (by rw [a3 42 (by decide)]; exact hD.2.1) hD.1 (fun y2 m2 j2 b1 b2 b3 => ⟨y2, rfl, ?_⟩)
      have hFu : zFu m0 m2 := fun q q1 q2 q3 q4 q5 => by rw [b3 q q2 q3, a3 q q1]; exact hF q q1 q2 q3
      rw [nI_1]
      exact s_raw_bad (by omega) r (k + 1) m2 P1 j2 (by omega) (zS_of a2 (b3 3 (by decide) (by decide)) (b3 4 (by decide) (by decide))) b1 b2 (fun m' P2 c1 c2 => h2 m' P2 ht.symm c1 (hFu.tr c2))
theorem s_readRaw {m : zM} {u : zU} {a limit : Nat} (hu : zUs f sz u m) (ha : m 44 0 = nI a) (hl : u.2.1.length ≤ limit) (h96 : limit ≤ 96)
    (h1 : ∀ m' u' a', zrawb f (8 * sz) limit limit u a = some (u', a') → zUs f sz u' m' → m' 44 0 = nI a' → zFu m m' → Q (some (.inl 1)) m')
    (h2 : ∀ m' P' ov', zrawb f (8 * sz) limit limit u a = none → zS f sz P' ov' m' → zFu m m' → Q (some (.inl 0)) m') :
    zR κ (d + 3) Y_Unpacker_readRaw 0 [some (.inr 41), some (.inr 3), some (.inl (nI limit)), none] [] m Q := by
  obtain ⟨P, o, r, b, w, e⟩ := u
  obtain ⟨hs, ho, hr, hp, hb, hw, he⟩ := hu
  have hl : o.length ≤ limit := hl
  refine w_Unpacker_readRaw_0 (s_zeros hs (fun m1 P1 a1 a2 a3 => ⟨1, rfl, fun _ => ?_, fun z => absurd z (by decide)⟩) (fun m1 P1 ov1 a1 a2 a3 => ⟨0, rfl, fun z => absurd rfl z, fun _ => ?_⟩))
  · have hz : zrawb f (8 * sz) limit limit (P, o, r, b, w, e) a = (match zraw f (8 * sz) (limit - o.length) P1 o with | none => none | some (P', o') => some ((P', o', r, b, w, e), a)) := zrawb_s (u := (P, o, r, b, w, e)) a1 (Nat.lt_irrefl _)
    have ho1 : zDr o m1 := zDr_of (a3 42 (by decide)) (a3 43 (by decide)) ho
    rw [ho1.2.1]
    refine s_raw (m0 := m1) (tot := zraw f (8 * sz) (limit - o.length) P1 o) h96 (fun m' P' o' b1 b2 b3 b4 => ?_) (fun m' P' b1 b2 b3 => ?_) (limit - o.length) o.length m1 P1 o (by omega) rfl a2 ho1 (fun _ _ _ _ => rfl) rfl
    · rw [b1] at hz
      have e44 : m' 44 = m 44 := by rw [b4 44 (by decide) (by decide) (by decide), a3 44 (by decide)]
      refine h1 m' _ a hz ⟨b2, b3, zRr_of (by rw [b4 46 (by decide) (by decide) (by decide), a3 46 (by decide)]) hr, hp, by rw [e44]; exact hb, by rw [e44]; exact hw, by rw [e44]; exact he⟩ (by rw [e44]; exact ha) (fun q q1 q2 q3 q4 q5 => by rw [b4 q q1 q2 q3, a3 q q1])
    · rw [b1] at hz
      exact h2 m' P' true hz b2 (fun q q1 q2 q3 q4 q5 => by rw [b3 q q1 q2 q3 q4 q5, a3 q q1])
  · exact h2 m1 P1 ov1 (zrawb_n (u := (P, o, r, b, w, e)) a1) a2 (zFu_3 a3)
theorem s_isReadWhole {m : zM} (hs : zS f sz P false m)
    (h1 : ∀ m', (∃ P', zpdd f (8 * sz) P = some P' ∧ P' = 8 * sz ∧ zS f sz P' false m') → (∀ q, q ≠ 3 → m' q = m q) → Q (some (.inl 1)) m')
    (h2 : ∀ m' P' ov', (match zpdd f (8 * sz) P with | none => none | some P' => if P' = 8 * sz then some P' else none) = none → zS f sz P' ov' m' → (∀ q, q ≠ 3 → m' q = m q) → Q (some (.inl 0)) m') :
    zR κ (d + 2) Y_BitStream_isReadWhole 0 [some (.inr 3)] [] m Q := by
  refine w_BitStream_isReadWhole_0 ⟨fun z => absurd (zov_f hs) z, fun _ => s_zeros hs (fun m1 P1 a1 a2 a3 => ⟨1, rfl, fun z => absurd z (by decide), fun _ => ?_⟩) (fun m1 P1 ov1 a1 a2 a3 => ⟨0, rfl, fun _ => ?_, fun z => absurd rfl z⟩)⟩
  · have h200 := a2.1
    have hP := a2.2.1
    have e8 : (8 : Int32) * m1 3 1 = nI (8 * sz) := by
      rw [a2.2.2.2.2.1]
      exact (Int32.ofNat_mul 8 sz).symm
    rw [e8, a2.2.2.2.2.2.1]
    refine ⟨fun z => ?_, fun z => h1 m1 ⟨P1, a1, (nI_eq (by omega) (by omega)).mp z, a2⟩ a3⟩
    refine h2 m1 P1 false ?_ a2 a3
    rw [a1]
    exact if_neg (fun w => z (by rw [w]))
  · refine h2 m1 P1 ov1 ?_ a2 a3
    rw [a1]
/-- the class's state between blocks -/
def zUb (f : Nat → Int32) (sz : Nat) (u : zU) (a : Nat) (m : zM) : Prop := zUs f sz u m ∧ m 44 0 = nI a ∧ zC4 m
theorem zUs_3 {u : zU} {P' : Nat} {m m' : zM} (h : zUs f sz u m) (hs : zS f sz P' false m') (hF : ∀ q, q ≠ 3 → m' q = m q) : zUs f sz (P', u.2) m' :=
  ⟨hs, zDr_of (hF 42 (by decide)) (hF 43 (by decide)) h.2.1, zRr_of (hF 46 (by decide)) h.2.2.1, h.2.2.2.1, by rw [hF 44 (by decide)]; exact h.2.2.2.2.1, by rw [hF 44 (by decide)]; exact h.2.2.2.2.2.1, by rw [hF 44 (by decide)]; exact h.2.2.2.2.2.2⟩
theorem zUb_3 {u : zU} {a P' : Nat} {m m' : zM} (h : zUb f sz u a m) (hs : zS f sz P' false m') (hF : ∀ q, q ≠ 3 → m' q = m q) : zUb f sz (P', u.2) a m' :=
  ⟨zUs_3 h.1 hs hF, by rw [hF 44 (by decide)]; exact h.2.1, zC4_u (zFu_3 hF) h.2.2⟩
set_option maxHeartbeats 1000000 in
theorem s_readAll_loop {m0 : zM} {tot : Option (zU × Nat)}
    (h1 : ∀ m' u a, zfin f (8 * sz) tot = some (u, a) → (∃ P', zUb f sz (P', u.2) a m') → zFw m0 m' → Q (some (.inl 1)) m')
    (h2 : ∀ m' P' ov', zfin f (8 * sz) tot = none → zS f sz P' ov' m' → zC4 m' → zFw m0 m' → Q (some (.inl 0)) m') :
    ∀ (t k : Nat) (m : zM) (u : zU) (a : Nat), k + t = 97 → zUb f sz u a m → zFw m0 m → zall f (8 * sz) t u a = tot →
    zR κ (d + 8) Y_Unpacker_readAll 29 [some (.inr 41), some (.inr 3), some (.inl 0), some (.inl (nI k)), none, none, none] [] m Q := by
  -- at the end of the blocks
  have kend : ∀ (m : zM) (u : zU) (a : Nat) (x : Int32), zUb f sz u a m → zFw m0 m → some (u, a) = tot → zR κ (d + 7 + 1) Y_Unpacker_readAll 157 [some (.inr 41), some (.inr 3), some (.inl 1), some (.inl x), none, none, none] [] m Q := by
    intro m u a x hu hF ht
    subst ht
    refine w_Unpacker_readAll_157 ⟨fun z => absurd z (by decide), fun _ => s_isReadWhole hu.1.1 (fun m1 a1 a3 => ⟨1, rfl, fun z => absurd z (by decide), fun _ => ?_⟩) (fun m1 P1 ov1 a1 a2 a3 => ⟨0, rfl, fun _ => ?_, fun z => absurd rfl z⟩)⟩
    · obtain ⟨P', b1, b2, b3⟩ := a1
      refine h1 m1 u a ?_ ⟨P', zUb_3 hu b3 a3⟩ (hF.tr (zFu_3 a3).w)
      show (match zpdd f (8 * sz) u.1 with | none => none | some P => if P = 8 * sz then some (u, a) else none) = some (u, a)
      rw [b1]
      exact if_pos b2
    · refine h2 m1 P1 ov1 ?_ a2 (zC4_u (zFu_3 a3) hu.2.2) (hF.tr (zFu_3 a3).w)
      show (match zpdd f (8 * sz) u.1 with | none => none | some P => if P = 8 * sz then some (u, a) else none) = none
      cases hz : zpdd f (8 * sz) u.1 with
      | none => rfl
      | some P' =>
        rw [hz] at a1
        by_cases hq : P' = 8 * sz
        · have a1 : (if P' = 8 * sz then some P' else none) = none := a1
          rw [if_pos hq] at a1
          cases a1
        · exact if_neg hq
  intro t
  induction t with
  | zero =>
    intro k m u a hk hu hF ht
    refine w_Unpacker_readAll_29 ⟨fun _ => w_Unpacker_readAll_157 ⟨fun _ => ?_, fun z => absurd rfl z⟩, fun z => absurd (show nI 96 < nI k from nI_lt (by omega) (by omega)) z⟩
    have ht : none = tot := ht
    subst ht
    exact h2 m u.1 false rfl hu.1.1 hu.2.2 hF
  | succ t ih =>
    intro k m u a hk hu hF ht
    have hfail : ∀ (m' : zM) (P' : Nat) (ov' : Bool), zblk f (8 * sz) u a = none → zS f sz P' ov' m' → zC4 m' → zFw m0 m' → Q (some (.inl 0)) m' := by
      intro m' P' ov' g1 g2 g3 g4
      unfold zall at ht
      rw [g1] at ht
      have ht : none = tot := ht
      subst ht
      exact h2 m' P' ov' rfl g2 g3 g4
    refine w_Unpacker_readAll_29 ⟨fun z => absurd z (show ¬ nI 96 < nI k from nI_nlt (by omega) (by decide)), fun _ => ⟨fun z => absurd rfl z, fun _ => ?_⟩⟩
    refine r_take (n := 1) (by decide) hu.1.1 (fun v P1 ov1 m1 a1 a2 a3 a4 => ⟨nI v, rfl, ?_⟩)
    have hv : v < 2 := a1
    have hF1 : zFw m0 m1 := hF.tr (zFu_3 a3).w
    have hC1 : zC4 m1 := zC4_u (zFu_3 a3) hu.2.2
    -- the block's body, behind the last bits
    have k84 : ∀ (last : Bool) (m2 : zM) (P2 : Nat) (s0 : Nat) (P3 : Nat) (ov3 : Bool) (tb : Option (Bool × zU × Nat)), s0 < 2 → zS f sz P3 ov3 m2 → (∀ q, q ≠ 3 → m2 q = m q) → zFw m0 m2 → (ov3 = true → zblk f (8 * sz) u a = none) → (ov3 = false → zblk f (8 * sz) u a = zbody f (8 * sz) last P2 u a ∧ zrd f (8 * sz) P2 1 = some (s0, P3)) →
        zR κ (d + 7 + 1) Y_Unpacker_readAll 84 [some (.inr 41), some (.inr 3), some (.inl (nI last.toNat)), some (.inl (nI k)), none, none, none] [.inl (nI s0)] m2 Q := by
      intro last m2 P2 s0 P3 ov3 _ hs0 b1 b2 b3 b4 b5
      have hC2 : zC4 m2 := zC4_u (zFu_3 b2) hu.2.2
      have hl := hu.1.2.1.1
      refine w_Unpacker_readAll_84 (r_take (n := 6) (by decide) b1 (fun x P4 ov4 m3 c1 c2 c3 c4 => ⟨nI x, rfl, fun z => ?_, fun z => ?_⟩))
      · refine hfail m3 P4 ov4 ?_ c2 (zC4_u (zFu_3 c3) hC2) (b3.tr (zFu_3 c3).w)
        have hov4 : ov4 = true := by
          cases ov4 with
          | true => rfl
          | false => exact absurd (zov_f c2) z
        subst hov4
        cases hov3 : ov3 with
        | true => exact b4 hov3
        | false =>
          obtain ⟨g1, g2⟩ := b5 hov3
          rw [g1]
          rcases c4.2 hov3 with ⟨_, g⟩ | ⟨g, _⟩
          · cases g
          · exact zbody_2 g2 g
      · have hov4 : ov4 = false := by
          cases ov4 with
          | false => rfl
          | true => exact absurd z (zov_t c2)
        subst hov4
        have hov3 : ov3 = false := by
          cases ov3 with
          | false => rfl
          | true => exact absurd (c4.1 rfl) (by decide)
        obtain ⟨g1, g2⟩ := b5 hov3
        have hx : x < 64 := c1
        have g3 : zrd f (8 * sz) P3 6 = some (x, P4) := by
          rcases c4.2 hov3 with ⟨g, _⟩ | ⟨_, g⟩
          · exact g
          · cases g
        have hm : ∀ q, q ≠ 3 → m3 q = m q := fun q hq => (c3 q hq).trans (b2 q hq)
        have e42 : m2 42 1 = nI u.2.1.length := by rw [b2 42 (by decide)]; exact hu.1.2.1.2.1
        rw [e42, nI_add, nI_1]
        have hu3 : zUb f sz (P4, u.2) a m3 := zUb_3 hu c2 hm
        have hb0 : zblk f (8 * sz) u a = (if 96 < u.2.1.length + x + 1 then none else match (if s0 = 1 then zcoded f (8 * sz) (u.2.1.length + x + 1) (u.2.1.length + x + 1) (P4, u.2) a else zrawb f (8 * sz) (u.2.1.length + x + 1) (u.2.1.length + x + 1) (P4, u.2) a) with | none => none | some (u', a') => some (last, u', a')) := by
          rw [g1]
          exact zbody_3 g2 g3
        refine ⟨fun h96 => ?_, fun h96 => ?_⟩
        · have h96 : u.2.1.length + x + 1 ≤ 96 := (nI_leI (by omega) (by decide)).mp (show nI (u.2.1.length + x + 1) ≤ nI 96 from h96)
          rw [if_neg (by omega)] at hb0
          -- the loop goes on
          have knext : ∀ (m5 : zM) (u5 : zU) (a5 : Nat), zblk f (8 * sz) u a = some (last, u5, a5) → zUb f sz u5 a5 m5 → zFw m0 m5 → zR κ (d + 7 + 1) Y_Unpacker_readAll 29 [some (.inr 41), some (.inr 3), some (.inl (nI last.toNat)), some (.inl (nI k + 1)), none, none, none] [] m5 Q := by
            intro m5 u5 a5 k1 k2 k3
            unfold zall at ht
            rw [k1] at ht
            have ht : (if last = true then some (u5, a5) else zall f (8 * sz) t u5 a5) = tot := ht
            rw [nI_1]
            cases last with
            | false =>
              rw [if_neg (by decide)] at ht
              exact ih (k + 1) m5 u5 a5 (by omega) k2 k3 ht
            | true =>
              rw [if_pos rfl] at ht
              refine w_Unpacker_readAll_29 ⟨fun _ => kend m5 u5 a5 _ k2 k3 ht, fun _ => ⟨fun _ => kend m5 u5 a5 _ k2 k3 ht, fun z => absurd z (by decide)⟩⟩
          refine ⟨fun hz0 => ?_, fun hz0 => ?_⟩
          · have hs0' : s0 = 0 := (nI_eq (by omega) (by decide)).mp hz0
            rw [if_neg (by omega)] at hb0
            refine s_readRaw (u := (P4, u.2)) hu3.1 hu3.2.1 (show u.2.1.length ≤ _ by omega) h96 (fun m5 u5 a5 k1 k2 k3 k4 => ⟨1, rfl, fun _ => ?_, fun z => absurd z (by decide)⟩) (fun m5 P5 ov5 k1 k2 k3 => ⟨0, rfl, fun z => absurd rfl z, fun _ => ?_⟩)
            · rw [k1] at hb0
              exact knext m5 u5 a5 hb0 ⟨k2, k3, zC4_u k4 hu3.2.2⟩ ((b3.tr (zFu_3 c3).w).tr k4.w)
            · rw [k1] at hb0
              exact hfail m5 P5 ov5 hb0 k2 (zC4_u k3 hu3.2.2) ((b3.tr (zFu_3 c3).w).tr k3.w)
          · have hs0' : s0 = 1 := by
              rcases (show s0 = 0 ∨ s0 = 1 by omega) with q | q
              · exact absurd (by rw [q]; rfl) hz0
              · exact q
            rw [if_pos hs0'] at hb0
            refine s_readCoded (u := (P4, u.2)) hu3.1 hu3.2.1 hu3.2.2 (show u.2.1.length ≤ _ by omega) h96 (fun m5 u5 a5 k1 k2 k3 k4 k5 => ⟨1, rfl, fun _ => ?_, fun z => absurd z (by decide)⟩) (fun m5 P5 ov5 k1 k2 k3 k4 => ⟨0, rfl, fun z => absurd rfl z, fun _ => ?_⟩)
            · rw [k1] at hb0
              exact knext m5 u5 a5 hb0 ⟨k2, k3, k4⟩ ((b3.tr (zFu_3 c3).w).tr k5)
            · rw [k1] at hb0
              exact hfail m5 P5 ov5 hb0 k2 k3 ((b3.tr (zFu_3 c3).w).tr k4)
        · rw [if_pos (by
            rcases Nat.lt_or_ge 96 (u.2.1.length + x + 1) with q | q
            · exact q
            · exact absurd (show nI (u.2.1.length + x + 1) ≤ nI 96 from nI_le q (by decide)) h96)] at hb0
          exact hfail m3 P4 false hb0 c2 (zC4_u (zFu_3 c3) hC2) (b3.tr (zFu_3 c3).w)
    -- the coded bit
    have k70 : ∀ (last : Bool) (m2 : zM) (P2 : Nat) (ov2 : Bool), zS f sz P2 ov2 m2 → (∀ q, q ≠ 3 → m2 q = m q) → zFw m0 m2 → (ov2 = true → zblk f (8 * sz) u a = none) → (ov2 = false → zblk f (8 * sz) u a = zbody f (8 * sz) last P2 u a) →
        zR κ (d + 7 + 1) Y_Unpacker_readAll 70 [some (.inr 41), some (.inr 3), some (.inl (nI last.toNat)), some (.inl (nI k)), none, none, none] [] m2 Q := by
      intro last m2 P2 ov2 b1 b2 b3 b4 b5
      refine w_Unpacker_readAll_70 (r_take (n := 1) (by decide) b1 (fun x P3 ov3 m3 c1 c2 c3 c4 => ⟨nI x, rfl, ?_⟩))
      have hx : x < 2 := c1
      have key : zR κ (d + 7 + 1) Y_Unpacker_readAll 84 [some (.inr 41), some (.inr 3), some (.inl (nI last.toNat)), some (.inl (nI k)), none, none, none] [.inl (nI x)] m3 Q := by
        refine k84 last m3 P2 x P3 ov3 none hx c2 (fun q hq => (c3 q hq).trans (b2 q hq)) (b3.tr (zFu_3 c3).w) (fun g => ?_) (fun g => ?_)
        · cases hov : ov2 with
          | true => exact b4 hov
          | false =>
            rw [b5 hov]
            rcases c4.2 hov with ⟨_, z⟩ | ⟨z, _⟩
            · rw [g] at z
              cases z
            · exact zbody_1 z
        · have hov : ov2 = false := by
            cases ov2 with
            | false => rfl
            | true =>
              have := c4.1 rfl
              rw [g] at this
              cases this
          refine ⟨b5 hov, ?_⟩
          rcases c4.2 hov with ⟨z, _⟩ | ⟨_, z⟩
          · exact z
          · rw [g] at z
            cases z
      refine ⟨fun z => ?_, fun z => ?_⟩
      · have : x = 0 := by
          rcases (show x = 0 ∨ x = 1 by omega) with q | q
          · exact q
          · exact absurd (by rw [q]; rfl) z
        rw [this] at key
        exact key
      · have : x = 1 := (nI_eq (by omega) (by decide)).mp z
        rw [this] at key
        exact key
    refine ⟨fun z => ?_, fun z => ?_⟩
    · have hv0 : ¬ v = 1 := fun q => z (by rw [q]; rfl)
      refine w_Unpacker_readAll_53 ⟨fun _ => ?_, fun z => absurd rfl z⟩
      refine k70 false m1 P1 ov1 a2 a3 hF1 (fun g => ?_) (fun g => ?_)
      · rcases a4.2 rfl with ⟨_, q⟩ | ⟨q, _⟩
        · rw [g] at q
          cases q
        · exact zblk_0 q
      · rcases a4.2 rfl with ⟨q, _⟩ | ⟨_, q⟩
        · exact zblk_1 q hv0
        · rw [g] at q
          cases q
    · have hv1 : v = 1 := (nI_eq (by omega) (by decide)).mp z
      refine w_Unpacker_readAll_53 ⟨fun z => absurd z (by decide), fun _ => ?_⟩
      refine r_take (n := 1) (by decide) a2 (fun x P2 ov2 m2 b1 b2 b3 b4 => ⟨nI x, rfl, fun z2 => ?_, fun z2 => ?_⟩)
      · have hx : x < 2 := b1
        have hx0 : ¬ x = 1 := fun q => z2 (by rw [q]; rfl)
        refine k70 true m2 P2 ov2 b2 (fun q hq => (b3 q hq).trans (a3 q hq)) (hF1.tr (zFu_3 b3).w) (fun g => ?_) (fun g => ?_)
        · rcases a4.2 rfl with ⟨q, q2⟩ | ⟨q, _⟩
          · rcases b4.2 q2 with ⟨_, q3⟩ | ⟨q3, _⟩
            · rw [g] at q3
              cases q3
            · exact zblk_2 q hv1 q3
          · exact zblk_0 q
        · have hov1 : ov1 = false := by
            cases ov1 with
            | false => rfl
            | true =>
              have := b4.1 rfl
              rw [g] at this
              cases this
          rcases a4.2 rfl with ⟨q, q2⟩ | ⟨_, q⟩
          · rcases b4.2 hov1 with ⟨q3, _⟩ | ⟨_, q3⟩
            · exact zblk_3 q hv1 q3 hx0
            · rw [g] at q3
              cases q3
          · rw [hov1] at q
            cases q
      · have hx : x < 2 := b1
        have hx1 : x = 1 := (nI_eq (by omega) (by decide)).mp z2
        have hov : ov1 = false ∧ ov2 = false ∨ (ov2 = true ∧ False) ∨ ov2 = true := by
          cases ov2 with
          | true => exact Or.inr (Or.inr rfl)
          | false =>
            cases ov1 with
            | false => exact Or.inl ⟨rfl, rfl⟩
            | true => exact absurd (b4.1 rfl) (by decide)
        rcases hov with ⟨o1, o2⟩ | ⟨_, g⟩ | g
        · subst o2
          have hz : zblk f (8 * sz) u a = some (true, (P2, u.2), a) := by
            rcases a4.2 rfl with ⟨q, _⟩ | ⟨_, q⟩
            · rcases b4.2 o1 with ⟨q3, _⟩ | ⟨_, q3⟩
              · exact zblk_4 q hv1 q3 hx1
              · cases q3
            · rw [o1] at q
              cases q
          unfold zall at ht
          rw [hz] at ht
          have ht : (if true = true then some (((P2, u.2) : zU), a) else zall f (8 * sz) t (P2, u.2) a) = tot := ht
          rw [if_pos rfl] at ht
          exact kend m2 (P2, u.2) a _ (zUb_3 hu b2 (fun q hq => (b3 q hq).trans (a3 q hq))) (hF1.tr (zFu_3 b3).w) ht
        · exact g.elim
        · subst g
          have hz : zblk f (8 * sz) u a = none := by
            rcases a4.2 rfl with ⟨q, q2⟩ | ⟨q, _⟩
            · rcases b4.2 q2 with ⟨_, q3⟩ | ⟨q3, _⟩
              · cases q3
              · exact zblk_2 q hv1 q3
            · exact zblk_0 q
          -- behind the end: the stream was not read whole
          refine w_Unpacker_readAll_157 ⟨fun z => absurd z (by decide), fun _ => w_BitStream_isReadWhole_0 ⟨fun _ => ⟨0, rfl, fun _ => ?_, fun z => absurd rfl z⟩, fun z => absurd z (zov_t b2)⟩⟩
          exact hfail m2 P2 true hz b2 (zC4_u (zFu_3 b3) hC1) (hF1.tr (zFu_3 b3).w)
end zUall
