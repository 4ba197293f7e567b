/-! the class reads descriptions, blocks and the whole -/
section zUblk
variable {κ : zK} {d : Nat} {Q : Option zV → zM → Prop} {f : Nat → Int32} {sz P : Nat}
def zC4 (m : zM) : Prop := zCode 48 256 8 m ∧ zCode 53 256 8 m ∧ zCode 58 32 5 m ∧ zCode 63 14 4 m
def zFw (m m' : zM) : Prop := ∀ q, q ≠ 3 → q ≠ 42 → q ≠ 43 → q ≠ 44 → q ≠ 46 → (q < 48 ∨ 67 < q) → m' q = m q
theorem zFw.tr {m m' m'' : zM} (h : zFw m m') (h' : zFw m' m'') : zFw m m'' := fun q a b c e g i => (h' q a b c e g i).trans (h q a b c e g i)
theorem zFu.w {m m' : zM} (h : zFu m m') : zFw m m' := fun q a b c e g _ => h q a b c e g
theorem zCode_fd {c c' n b : Nat} {m m' : zM} (hne : c' + 4 < c ∨ c + 4 < c') (h3 : 3 < c') (h : zFd c m m') (hk : zCode c' n b m) : zCode c' n b m' :=
  zCode_of (h.1 c' (by omega) (by omega) (by omega) (by omega) (by omega)) (h.1 (c' + 1) (by omega) (by omega) (by omega) (by omega) (by omega)) (h.1 (c' + 3) (by omega) (by omega) (by omega) (by omega) (by omega)) hk
theorem zCk_fd {c c' S : Nat} {l : List (Nat × Nat)} {m m' : zM} (hne : c' + 4 < c ∨ c + 4 < c') (h3 : 3 < c') (h : zFd c m m') (hk : zCk c' S l m) : zCk c' S l m' := by
  obtain ⟨⟨L, h1⟩, h2⟩ := hk
  exact ⟨⟨L, zRdy_of (h.1 c' (by omega) (by omega) (by omega) (by omega) (by omega)) (h.1 (c' + 1) (by omega) (by omega) (by omega) (by omega) (by omega)) (h.1 (c' + 3) (by omega) (by omega) (by omega) (by omega) (by omega)) (h.1 (c' + 4) (by omega) (by omega) (by omega) (by omega) (by omega)) h1⟩, h2⟩
theorem zFd_48 {c : Nat} {m m' : zM} (hc : 48 ≤ c) (hc2 : c + 4 ≤ 67) (h : zFd c m m') : ∀ q, q ≠ 3 → (q < 48 ∨ 67 < q) → m' q = m q := fun q a b => h.1 q a (by omega) (by omega) (by omega) (by omega)
theorem r_desc {c S nb : Nat} {m : zM} (hc : is_Code c S) (hc11 : 11 ≤ c) (hS : S ≤ 256) (hnb : nb ≤ 8) (hcd : zCode c S nb m) (hs : zS f sz P false m)
    (h1 : ∀ (m' : zM) (l : List (Nat × Nat)) (P' : Nat), zrdCode f (8 * sz) S nb P = some (l, P') → zS f sz P' false m' → zCk c S l m' → zCode c S nb m' → zFd c m m' → Q (some (.inl 1)) m')
    (h2 : ∀ (m' : zM) (P' : Nat) (ov' : Bool), zrdCode f (8 * sz) S nb P = none → zS f sz P' ov' m' → zCode c S nb m' → zFd c m m' → Q (some (.inl 0)) m') :
    zR κ (d + 2) Y_Code_readDescription 0 [some (.inr c), some (.inr 3), none, none] [] m Q :=
  s_readDescription hc hc11 hS hnb hcd hs (fun m' l L P' a1 a2 a3 a4 => h1 m' l P' a1 a2 ⟨⟨L, a3⟩, zgood_of a1⟩ ⟨by rw [a4.2 0 (by decide)]; exact hcd.1, by rw [a4.2 1 (by decide)]; exact hcd.2.1, L, a3.1⟩ a4) h2
/-- a description behind the stream's end -/
theorem s_readDescription_ov {c S nb : Nat} {m : zM} (hc : is_Code c S) (hc11 : 11 ≤ c) (hS : S ≤ 256) (hnb : nb ≤ 8) (hcd : zCode c S nb m) (hs : zS f sz P true m)
    (h2 : ∀ (m' : zM) (P' : Nat) (ov' : Bool), zS f sz P' ov' m' → zCode c S nb m' → zFd c m m' → Q (some (.inl 0)) m') :
    zR κ (d + 2) Y_Code_readDescription 0 [some (.inr c), some (.inr 3), none, none] [] m Q := by
  obtain ⟨c0, c1, l0, hl0⟩ := hcd
  refine w_Code_readDescription_0 hc (s_forgetListed hc hS hl0 (fun m1 a1 a2 a3 a4 => ⟨rfl, ?_⟩))
  have hs1 : zS f sz P true m1 := zS_of hs (a1 3 (by omega) (by omega)) (a1 4 (by omega) (by omega))
  have hr1 : zRaw c S m1 [] := ⟨⟨by decide, fun s h => absurd h List.not_mem_nil, by rw [a3]; rfl, fun k h => absurd h (Nat.not_lt_zero k), fun s h _ => a4 s h⟩, List.nodup_nil, fun p h => absurd h List.not_mem_nil⟩
  have hF1 : zFc c m m1 := ⟨fun q _ b _ e => a1 q b e, a2⟩
  refine r_take (n := 1) (by decide) hs1 (fun v P1 ov1 m2 hv hs2 hf2 htk => ⟨nI v, rfl, ?_⟩)
  have hov := htk.1 rfl
  subst hov
  have hr2 : zRaw c S m2 [] := zRaw_of (hf2 c (by omega)) (hf2 (c + 1) (by omega)) (hf2 (c + 3) (by omega)) hr1
  have hF2 : zFc c m m2 := hF1.tr (zFc_3 hc11 hf2)
  have e0 : m2 c 0 = nI S := by rw [hF2.2 0 (by decide)]; exact c0
  have e1 : m2 c 1 = nI nb := by rw [hF2.2 1 (by decide)]; exact c1
  have hend : ∀ (y x : Int32) (m3 : zM) (l : List (Nat × Nat)) (P3 : Nat) (ov3 : Bool), (y = 0 ∨ ov3 = true) → zS f sz P3 ov3 m3 → zRaw c S m3 l → zFc c m m3 → zR κ (d + 1 + 1) Y_Code_readDescription 36 [some (.inr c), some (.inr 3), some (.inl x), none] [.inl y] m3 Q := by
    intro y x m3 l P3 ov3 hy hs3 hr3 hF3
    have hcode3 : zCode c S nb m3 := ⟨by rw [hF3.2 0 (by decide)]; exact c0, by rw [hF3.2 1 (by decide)]; exact c1, _, hr3.1⟩
    refine w_Code_readDescription_36 hc ⟨fun _ => h2 m3 P3 ov3 hs3 hcode3 hF3.fd, fun q => ⟨fun q1 => ?_, fun q1 => h2 m3 P3 ov3 hs3 hcode3 hF3.fd⟩⟩
    have hov : ov3 = true := hy.resolve_left q
    subst hov
    exact absurd q1 (by rw [hs3.2.2.2.2.2.2]; decide)
  refine ⟨fun q => ?_, fun q => ?_⟩
  · refine w_Code_readDescription_18 hc ⟨fun _ => w_Code_readBitNumbers_0 hc ?_, fun q => absurd rfl q⟩
    refine s_readFull_loop (m0 := m2) (tot := none) hc hc11 hS e0 (fun y m' l' P' ov' b1 b2 b3 b4 b5 b6 => ⟨y, rfl, hend y 0 m' l' P' ov' ?_ b2 b3 (hF2.tr b4)⟩) S 64 0 P1 true m2 [] (by omega) (by omega) (by decide) (fun p h => absurd h List.not_mem_nil) hs2 hr2 zFc.rf (fun e => by cases e) (fun _ => rfl)
    rcases b1 with b1 | b1
    · exact Or.inl b1
    · cases ov' with
      | true => exact Or.inr rfl
      | false => cases b5 b1 rfl
  · refine w_Code_readDescription_18 hc ⟨fun q => absurd q (by decide), fun _ => ?_⟩
    refine s_readSimple hc hc11 hS hnb e0 e1 hs2 hr2 (fun y m' l' P' ov' b1 b2 b3 b4 b5 b6 => ⟨y, rfl, hend y 1 m' l' P' ov' ?_ b2 b3 (hF2.tr b4)⟩)
    rcases b1 with b1 | b1
    · exact Or.inl b1
    · cases ov' with
      | true => exact Or.inr rfl
      | false => cases (b5 b1 rfl).1
theorem s_readDescs_ov {m : zM} {x : Int32} (h4 : zC4 m) (hs : zS f sz P true m)
    (h2 : ∀ (m' : zM) (P' : Nat) (ov' : Bool), zS f sz P' ov' m' → zC4 m' → (∀ q, q ≠ 3 → (q < 48 ∨ 67 < q) → m' q = m q) → Q (some (.inl 0)) m') :
    zR κ (d + 3) Y_Codes_readDescriptions 0 [some (.inr 47), some (.inr 3), some (.inl x)] [] m Q := by
  obtain ⟨c1, c2, c3, c4⟩ := h4
  exact w_Codes_readDescriptions_0 is_Codes_47 (s_readDescription_ov is_Code_48 (by decide) (by decide) (by decide) c1 hs (fun m1 P1 ov1 a2 a3 a4 => ⟨0, rfl, fun _ => h2 m1 P1 ov1 a2 ⟨a3, zCode_fd (Or.inr (by decide)) (by decide) a4 c2, zCode_fd (Or.inr (by decide)) (by decide) a4 c3, zCode_fd (Or.inr (by decide)) (by decide) a4 c4⟩ (zFd_48 (c := 48) (by decide) (by decide) a4), fun z => absurd rfl z⟩))
set_option maxHeartbeats 1000000 in
theorem s_readDescs {m : zM} {map : Bool} (h4 : zC4 m) (hs : zS f sz P false m)
    (h1 : ∀ (m' : zM) (K : zCo) (P' : Nat), zcd4 f (8 * sz) map P = some (K, P') → zS f sz P' false m' → zKs map K m' → zC4 m' → (∀ q, q ≠ 3 → (q < 48 ∨ 67 < q) → m' q = m q) → Q (some (.inl 1)) m')
    (h2 : ∀ (m' : zM) (P' : Nat) (ov' : Bool), zcd4 f (8 * sz) map P = none → zS f sz P' ov' m' → zC4 m' → (∀ q, q ≠ 3 → (q < 48 ∨ 67 < q) → m' q = m q) → Q (some (.inl 0)) m') :
    zR κ (d + 3) Y_Codes_readDescriptions 0 [some (.inr 47), some (.inr 3), some (.inl (nI map.toNat))] [] m Q := by
  obtain ⟨c1, c2, c3, c4⟩ := h4
  -- the two codes behind the literals'
  have k26 : ∀ (m1 : zM) (la lb : List (Nat × Nat)) (P1 : Nat), zS f sz P1 false m1 → zCk 48 256 la m1 → (map = true → zCk 53 256 lb m1) → zC4 m1 → (∀ q, q ≠ 3 → (q < 48 ∨ 67 < q) → m1 q = m q) → (∀ r, (match zrdCode f (8 * sz) 32 5 P1 with | none => none | some (lc, P4) => match zrdCode f (8 * sz) 14 4 P4 with | none => none | some (ld, P5) => some ((la, lb, lc, ld), P5)) = r → zcd4 f (8 * sz) map P = r) →
      zR κ (d + 2 + 1) Y_Codes_readDescriptions 26 [some (.inr 47), some (.inr 3), some (.inl (nI map.toNat))] [] m1 Q := by
    intro m1 la lb P1 g1 g2 g3 g4 g5 g6
    obtain ⟨e1, e2, e3, e4⟩ := g4
    refine w_Codes_readDescriptions_26 is_Codes_47 (r_desc is_Code_58 (by decide) (by decide) (by decide) e3 g1 (fun m2 lc P2 a1 a2 a3 a4 a5 => ⟨1, rfl, fun z => absurd z (by decide), fun _ => ?_⟩) (fun m2 P2 ov2 a1 a2 a3 a4 => ⟨0, rfl, fun _ => ?_, fun z => absurd rfl z⟩))
    · have f2 := zFd_48 (c := 58) (by decide) (by decide) a5
      refine r_desc is_Code_63 (by decide) (by decide) (by decide) (zCode_fd (Or.inr (by decide)) (by decide) a5 e4) a2 (fun m3 ld P3 b1 b2 b3 b4 b5 => ⟨1, rfl, fun z => absurd z (by decide), fun _ => ?_⟩) (fun m3 P3 ov3 b1 b2 b3 b4 => ⟨0, rfl, fun _ => ?_, fun z => absurd rfl z⟩)
      · have f3 := zFd_48 (c := 63) (by decide) (by decide) b5
        refine h1 m3 (la, lb, lc, ld) P3 (g6 _ (by rw [a1]; show (match zrdCode f (8 * sz) 14 4 P2 with | none => none | some (ld, P5) => some ((la, lb, lc, ld), P5)) = _; rw [b1])) b2 ⟨zCk_fd (Or.inl (by decide)) (by decide) b5 (zCk_fd (Or.inl (by decide)) (by decide) a5 g2), fun hm => zCk_fd (Or.inl (by decide)) (by decide) b5 (zCk_fd (Or.inl (by decide)) (by decide) a5 (g3 hm)), zCk_fd (Or.inl (by decide)) (by decide) b5 a3, b3⟩
          ⟨zCode_fd (Or.inl (by decide)) (by decide) b5 (zCode_fd (Or.inl (by decide)) (by decide) a5 e1), zCode_fd (Or.inl (by decide)) (by decide) b5 (zCode_fd (Or.inl (by decide)) (by decide) a5 e2), zCode_fd (Or.inl (by decide)) (by decide) b5 a4, b4⟩ (fun q q1 q2 => (f3 q q1 q2).trans ((f2 q q1 q2).trans (g5 q q1 q2)))
      · have f3 := zFd_48 (c := 63) (by decide) (by decide) b4
        refine h2 m3 P3 ov3 (g6 _ (by rw [a1]; show (match zrdCode f (8 * sz) 14 4 P2 with | none => none | some (ld, P5) => some ((la, lb, lc, ld), P5)) = _; rw [b1])) b2
          ⟨zCode_fd (Or.inl (by decide)) (by decide) b4 (zCode_fd (Or.inl (by decide)) (by decide) a5 e1), zCode_fd (Or.inl (by decide)) (by decide) b4 (zCode_fd (Or.inl (by decide)) (by decide) a5 e2), zCode_fd (Or.inl (by decide)) (by decide) b4 a4, b3⟩ (fun q q1 q2 => (f3 q q1 q2).trans ((f2 q q1 q2).trans (g5 q q1 q2)))
    · have f2 := zFd_48 (c := 58) (by decide) (by decide) a4
      exact h2 m2 P2 ov2 (g6 _ (by rw [a1])) a2 ⟨zCode_fd (Or.inl (by decide)) (by decide) a4 e1, zCode_fd (Or.inl (by decide)) (by decide) a4 e2, a3, zCode_fd (Or.inr (by decide)) (by decide) a4 e4⟩ (fun q q1 q2 => (f2 q q1 q2).trans (g5 q q1 q2))
  refine w_Codes_readDescriptions_0 is_Codes_47 (r_desc is_Code_48 (by decide) (by decide) (by decide) c1 hs (fun m1 la P1 a1 a2 a3 a4 a5 => ⟨1, rfl, fun z => absurd z (by decide), fun _ => ⟨fun hm => ?_, fun hm => ?_⟩⟩) (fun m1 P1 ov1 a1 a2 a3 a4 => ⟨0, rfl, fun _ => ?_, fun z => absurd rfl z⟩))
  · have f1 := zFd_48 (c := 48) (by decide) (by decide) a5
    have hm : map = false := by
      cases map
      · rfl
      · exact absurd hm (by decide)
    subst hm
    refine k26 m1 la [] P1 a2 a3 (fun z => by cases z) ⟨a4, zCode_fd (Or.inr (by decide)) (by decide) a5 c2, zCode_fd (Or.inr (by decide)) (by decide) a5 c3, zCode_fd (Or.inr (by decide)) (by decide) a5 c4⟩ f1 (fun r hr => ?_)
    unfold zcd4
    rw [a1]
    exact hr
  · have f1 := zFd_48 (c := 48) (by decide) (by decide) a5
    have hm : map = true := by
      cases map
      · exact absurd rfl hm
      · rfl
    subst hm
    refine r_desc is_Code_53 (by decide) (by decide) (by decide) (zCode_fd (Or.inr (by decide)) (by decide) a5 c2) a2 (fun m2 lb P2 b1 b2 b3 b4 b5 => ⟨1, rfl, fun z => absurd z (by decide), fun _ => ?_⟩) (fun m2 P2 ov2 b1 b2 b3 b4 => ⟨0, rfl, fun _ => ?_, fun z => absurd rfl z⟩)
    · have f2 := zFd_48 (c := 53) (by decide) (by decide) b5
      refine k26 m2 la lb P2 b2 (zCk_fd (Or.inl (by decide)) (by decide) b5 a3) (fun _ => b3) ⟨zCode_fd (Or.inl (by decide)) (by decide) b5 a4, b4, zCode_fd (Or.inr (by decide)) (by decide) b5 (zCode_fd (Or.inr (by decide)) (by decide) a5 c3), zCode_fd (Or.inr (by decide)) (by decide) b5 (zCode_fd (Or.inr (by decide)) (by decide) a5 c4)⟩ (fun q q1 q2 => (f2 q q1 q2).trans (f1 q q1 q2)) (fun r hr => ?_)
      unfold zcd4
      rw [a1]
      show (match (if true = true then zrdCode f (8 * sz) 256 8 P1 else some ([], P1)) with | none => none | some (lb, P3) => match zrdCode f (8 * sz) 32 5 P3 with | none => none | some (lc, P4) => match zrdCode f (8 * sz) 14 4 P4 with | none => none | some (ld, P5) => some ((la, lb, lc, ld), P5)) = r
      rw [if_pos rfl, b1]
      exact hr
    · have f2 := zFd_48 (c := 53) (by decide) (by decide) b4
      refine h2 m2 P2 ov2 ?_ b2 ⟨zCode_fd (Or.inl (by decide)) (by decide) b4 a4, b3, zCode_fd (Or.inr (by decide)) (by decide) b4 (zCode_fd (Or.inr (by decide)) (by decide) a5 c3), zCode_fd (Or.inr (by decide)) (by decide) b4 (zCode_fd (Or.inr (by decide)) (by decide) a5 c4)⟩ (fun q q1 q2 => (f2 q q1 q2).trans (f1 q q1 q2))
      unfold zcd4
      rw [a1]
      show (match (if true = true then zrdCode f (8 * sz) 256 8 P1 else some ([], P1)) with | none => none | some (lb, P3) => match zrdCode f (8 * sz) 32 5 P3 with | none => none | some (lc, P4) => match zrdCode f (8 * sz) 14 4 P4 with | none => none | some (ld, P5) => some ((la, lb, lc, ld), P5)) = none
      rw [if_pos rfl, b1]
  · have f1 := zFd_48 (c := 48) (by decide) (by decide) a4
    refine h2 m1 P1 ov1 ?_ a2 ⟨a3, zCode_fd (Or.inr (by decide)) (by decide) a4 c2, zCode_fd (Or.inr (by decide)) (by decide) a4 c3, zCode_fd (Or.inr (by decide)) (by decide) a4 c4⟩ f1
    unfold zcd4
    rw [a1]
theorem zC4_u {m m' : zM} (h : zFu m m') (hk : zC4 m) : zC4 m' :=
  ⟨zCode_of (h _ (by decide) (by decide) (by decide) (by decide) (by decide)) (h _ (by decide) (by decide) (by decide) (by decide) (by decide)) (h _ (by decide) (by decide) (by decide) (by decide) (by decide)) hk.1, zCode_of (h _ (by decide) (by decide) (by decide) (by decide) (by decide)) (h _ (by decide) (by decide) (by decide) (by decide) (by decide)) (h _ (by decide) (by decide) (by decide) (by decide) (by decide)) hk.2.1, zCode_of (h _ (by decide) (by decide) (by decide) (by decide) (by decide)) (h _ (by decide) (by decide) (by decide) (by decide) (by decide)) (h _ (by decide) (by decide) (by decide) (by decide) (by decide)) hk.2.2.1, zCode_of (h _ (by decide) (by decide) (by decide) (by decide) (by decide)) (h _ (by decide) (by decide) (by decide) (by decide) (by decide)) (h _ (by decide) (by decide) (by decide) (by decide) (by decide)) hk.2.2.2⟩
theorem s_cmdloop {map : Bool} {K : zCo} {limit a : Nat} {m0 : zM} {tot : Option zU} (h96 : limit ≤ 96)
    (h1 : ∀ m' u', tot = some u' → zUs f sz u' m' → zFu m0 m' → m' 44 0 = nI a → Q (some (.inl 1)) m')
    (h2 : ∀ m' P' ov', tot = none → zS f sz P' ov' m' → zFu m0 m' → Q (some (.inl 0)) m') :
    ∀ (t k : Nat) (m : zM) (u : zU), k + t = 64 → zUs f sz u m → zKs map K m → u.2.1.length ≤ limit → m 44 0 = nI a → zFu m0 m → zcmds f (8 * sz) K map limit limit t u = tot →
    zR κ (d + 7) Y_Unpacker_readCoded 45 [some (.inr 41), some (.inr 3), some (.inl (nI limit)), some (.inl (nI map.toNat)), some (.inl (nI k))] [] m Q := by
  intro t
  have k81 : ∀ (m : zM) (u : zU) (x : Int32), zUs f sz u m → m 44 0 = nI a → zFu m0 m → (if u.2.1.length = limit then some u else none) = tot → zR κ (d + 6 + 1) Y_Unpacker_readCoded 81 [some (.inr 41), some (.inr 3), some (.inl (nI limit)), some (.inl (nI map.toNat)), some (.inl x)] [] m Q := by
    intro m u x a1 a2 a3 a4
    have hl := a1.2.1.1
    refine w_Unpacker_readCoded_81 ⟨fun z => ?_, fun z => ?_⟩
    · rw [a1.2.1.2.1] at z
      rw [if_neg (fun w => z (by rw [w]))] at a4
      exact h2 m _ false a4.symm a1.1 a3
    · rw [a1.2.1.2.1] at z
      rw [if_pos ((nI_eq (by omega) (by omega)).mp z)] at a4
      exact h1 m u a4.symm a1 a3 a2
  induction t with
  | zero =>
    intro k m u hk a1 a2 a3 a4 a5 a6
    exact w_Unpacker_readCoded_45 ⟨fun _ => k81 m u _ a1 a4 a5 a6, fun z => absurd (show nI 64 ≤ nI k from nI_le (by omega) (by omega)) z⟩
  | succ t ih =>
    intro k m u hk a1 a2 a3 a4 a5 a6
    have hl := a1.2.1.1
    unfold zcmds at a6
    refine w_Unpacker_readCoded_45 ⟨fun z => absurd z (show ¬ nI 64 ≤ nI k from nI_ge (by omega) (by decide)), fun _ => ⟨fun z => ?_, fun z => ?_⟩⟩
    · rw [a1.2.1.2.1] at z
      rw [if_pos ((nI_leI (by omega) (by omega)).mp z)] at a6
      exact k81 m u _ a1 a4 a5 a6
    · rw [a1.2.1.2.1] at z
      have hlt : u.2.1.length < limit := by
        rcases Nat.lt_or_ge u.2.1.length limit with q | q
        · exact q
        · exact absurd (nI_le q (by omega)) z
      rw [if_neg (by omega)] at a6
      refine s_readCommand a1 a2 hlt h96 (fun m' u' b1 b2 b3 b4 => ⟨1, rfl, fun _ => ?_, fun z => absurd z (by decide)⟩) (fun m' P' ov' b1 b2 b3 => ⟨0, rfl, fun z => absurd rfl z, fun _ => ?_⟩)
      · rw [b1] at a6
        rw [nI_1]
        exact ih (k + 1) m' u' (by omega) b2 (zKs_of b3 a2) (zcmd_len hlt b1).2 (by rw [b4]; exact a4) (a5.tr b3) a6
      · rw [b1] at a6
        exact h2 m' P' ov' a6.symm b2 (a5.tr b3)
theorem s_readCoded {m : zM} {u : zU} {a limit : Nat} (hu : zUs f sz u m) (ha : m 44 0 = nI a) (h4 : zC4 m) (hl : u.2.1.length ≤ limit) (h96 : limit ≤ 96)
    (h1 : ∀ m' u' a', zcoded f (8 * sz) limit limit u a = some (u', a') → zUs f sz u' m' → m' 44 0 = nI a' → zC4 m' → zFw m m' → Q (some (.inl 1)) m')
    (h2 : ∀ m' P' ov', zcoded f (8 * sz) limit limit u a = none → zS f sz P' ov' m' → zC4 m' → zFw m m' → Q (some (.inl 0)) m') :
    zR κ (d + 7) Y_Unpacker_readCoded 0 [some (.inr 41), some (.inr 3), some (.inl (nI limit)), none, none] [] m Q := by
  obtain ⟨P, o, r, b, w, e⟩ := u
  obtain ⟨hs, ho, hr, hp, hb, hw, he⟩ := hu
  refine w_Unpacker_readCoded_0 (r_take (n := 1) (by decide) hs (fun v P1 ov1 m1 a1 a2 a3 a4 => ⟨nI v, rfl, ?_⟩))
  have hv : v < 2 := a1
  have hC1 : zC4 m1 := zC4_u (zFu_3 a3) h4
  have key : zR κ (d + 6 + 1) Y_Unpacker_readCoded 14 [some (.inr 41), some (.inr 3), some (.inl (nI limit)), none, none] [.inl (nI (decide (v = 1)).toNat)] m1 Q := by
    cases hov : ov1 with
    | true =>
      subst hov
      have hz : zcoded f (8 * sz) limit limit (P, o, r, b, w, e) a = none := by
        rcases a4.2 rfl with ⟨_, g⟩ | ⟨g, _⟩
        · cases g
        · exact zcoded_n (u := (P, o, r, b, w, e)) g
      refine w_Unpacker_readCoded_14 (s_readDescs_ov hC1 a2 (fun m2 P2 ov2 g1 g2 g3 => ⟨0, rfl, fun z => absurd rfl z, fun _ => h2 m2 P2 ov2 hz g1 g2 (fun q q1 q2 q3 q4 q5 q6 => (g3 q q1 q6).trans (a3 q q1))⟩))
    | false =>
      subst hov
      have hg : zrd f (8 * sz) P 1 = some (v, P1) := by
        rcases a4.2 rfl with ⟨g, _⟩ | ⟨_, g⟩
        · exact g
        · cases g
      refine w_Unpacker_readCoded_14 (s_readDescs hC1 a2 (fun m2 K P2 g1 g2 g3 g4 g5 => ⟨1, rfl, fun _ => ?_, fun z => absurd z (by decide)⟩) (fun m2 P2 ov2 g1 g2 g3 g4 => ⟨0, rfl, fun z => absurd rfl z, fun _ => ?_⟩))
      · have hF : ∀ q, q ≠ 3 → (q < 48 ∨ 67 < q) → m2 q = m q := fun q q1 q2 => (g5 q q1 q2).trans (a3 q q1)
        have hF3 : zFu m2 (zms m2 44 0 (m2 44 0 + 1)) := zFu_s (by decide)
        have hz : zcoded f (8 * sz) limit limit (P, o, r, b, w, e) a = (match zcmds f (8 * sz) K (decide (v = 1)) limit limit 64 (P2, o, r, b, w, e) with | none => none | some u' => some (u', a + 1)) := zcoded_s (u := (P, o, r, b, w, e)) hg g1
        refine s_cmdloop (K := K) (map := decide (v = 1)) (a := a + 1) (m0 := zms m2 44 0 (m2 44 0 + 1)) h96 ?_ ?_ 64 0 _ (P2, o, r, b, w, e) (by omega) ⟨zS_of g2 (zms_ne (by decide)) (zms_ne (by decide)), zDr_of (by rw [zms_ne (by decide)]; exact hF 42 (by decide) (by decide)) (by rw [zms_ne (by decide)]; exact hF 43 (by decide) (by decide)) ho, zRr_of (by rw [zms_ne (by decide)]; exact hF 46 (by decide) (by decide)) hr, hp, by rw [zms_nk (by decide), hF 44 (by decide) (by decide)]; exact hb, by rw [zms_nk (by decide), hF 44 (by decide) (by decide)]; exact hw, by rw [zms_nk (by decide), hF 44 (by decide) (by decide)]; exact he⟩ (zKs_of hF3 g3) hl (by rw [zms_ss, hF 44 (by decide) (by decide), ha, nI_1]) zFu.rf rfl
        · intro m' u' k1 k2 k3 k4
          rw [k1] at hz
          exact h1 m' u' (a + 1) hz k2 k4 (zC4_u k3 (zC4_u hF3 g4)) (fun q q1 q2 q3 q4 q5 q6 => by rw [k3 q q1 q2 q3 q4 q5, hF3 q q1 q2 q3 q4 q5]; exact hF q q1 q6)
        · intro m' P' ov' k1 k2 k3
          rw [k1] at hz
          exact h2 m' P' ov' hz k2 (zC4_u k3 (zC4_u hF3 g4)) (fun q q1 q2 q3 q4 q5 q6 => by rw [k3 q q1 q2 q3 q4 q5, hF3 q q1 q2 q3 q4 q5]; exact hF q q1 q6)
      · have hz : zcoded f (8 * sz) limit limit (P, o, r, b, w, e) a = none := zcoded_c (u := (P, o, r, b, w, e)) hg g1
        exact h2 m2 P2 ov2 hz g2 g3 (fun q q1 q2 q3 q4 q5 q6 => (g4 q q1 q6).trans (a3 q q1))
  refine ⟨fun z => ?_, fun z => ?_⟩
  · have : decide (v = 1) = false := decide_eq_false (fun w => z (by rw [w]; rfl))
    rw [this] at key
    exact key
  · have : decide (v = 1) = true := decide_eq_true ((nI_eq (by omega) (by decide)).mp z)
    rw [this] at key
    exact key
end zUblk
