/-! the reference writes a block -/
section zRblk
variable {κ : zK} {d : Nat} {Q : Option zV → zM → Prop} {T : List Nat} {map : Bool} {tm : Nat → Nat} {p e : Nat} {cs : List zCmd}
/-- what a block of the reference leaves alone -/
def zFy (m m' : zM) : Prop := (∀ q, q ≠ 68 → (q < 71 ∨ 74 < q) → m' q = m q) ∧ ∀ k, k ≠ 8 → m' 68 k = m 68 k
theorem zFy.tr {m m' m'' : zM} (h : zFy m m') (h' : zFy m' m'') : zFy m m'' := ⟨fun q a b => (h'.1 q a b).trans (h.1 q a b), fun k a => (h'.2 k a).trans (h.2 k a)⟩
theorem zFy.rf {m : zM} : zFy m m := ⟨fun _ _ _ => rfl, fun _ _ => rfl⟩
theorem zF68.y {m m' : zM} (h : zF68 m m') : zFy m m' := ⟨fun q a b => h.1 q a (by omega), h.2⟩
theorem zFx2.y {B S : Nat} {m m' : zM} (h : zFx2 B S m m') : zFy m m' := ⟨fun q a b => h.1 q a (by omega) (by omega) (by omega), h.2.1⟩
theorem zTm_y {m m' : zM} (h : zFy m m') (hT : zTm T m) : zTm T m' := zTm_of (h.2 0 (by decide)) (h.1 69 (by decide) (by decide)) hT
theorem zPm_y {m m' : zM} (h : zFy m m') (hP : zPm cs m) : zPm cs m' := by
  unfold zPm zcmdM
  rw [h.2 15 (by decide), h.1 77 (by decide) (by decide), h.1 78 (by decide) (by decide), h.1 79 (by decide) (by decide), h.1 80 (by decide) (by decide), h.1 81 (by decide) (by decide), h.1 82 (by decide) (by decide), h.1 83 (by decide) (by decide)]
  exact hP
def zWr1 (B S : Nat) (tm : Nat → Nat) (m : zM) : Prop := (∀ s, s < S → s ∈ zL0 tm S → m 73 (B + s) = nI (zcw tm S s)) ∧ ∀ s ∈ zL0 tm S, m 74 (B + s) = zcv tm S s
theorem zWr1_x {B S B' S' : Nat} {m m' : zM} (hS : 0 < S) (hne : B + S ≤ B' ∨ B' + S' ≤ B) (h : zFx2 B' S' m m') (hw : zWr1 B S tm m) : zWr1 B S tm m' := by
  refine ⟨fun s hs hi => ?_, fun s hi => ?_⟩
  · rw [(h.2.2 (B + s) (by omega)).1]
    exact hw.1 s hs hi
  · have := zL0_lt hS hi
    rw [(h.2.2 (B + s) (by omega)).2]
    exact hw.2 s hi
theorem zCm_x {B S : Nat} {f : Nat → Nat} {m m' : zM} (h : zFx2 B S m m') (hc : zCm f m) : zCm f m' := by
  unfold zCm
  rw [h.1 72 (by decide) (by decide) (by decide) (by decide)]
  exact hc
theorem m_desc {B S nb : Nat} {m : zM} {bs : List Bool} (hb : zBase B S nb) (hT : ∀ x ∈ T, x < 256) (hok : zCok p e cs) (hpe : e ≤ p + 48) (hc : zCm (zctm T map cs) m) (hl : bs.length + 3 * S + 35 ≤ 4000) (hw : zWM m bs)
    (hQ : ∀ m', zWM m' (bs ++ zdsc (fun s => zctm T map cs (B + s)) S nb) → zWr1 B S (fun s => zctm T map cs (B + s)) m' → zFx2 B S m m' → zCm (zctm T map cs) m' → (bs ++ zdsc (fun s => zctm T map cs (B + s)) S nb).length ≤ bs.length + 3 * S + 35 → Q none m') : zR κ (d + 2) Y_Mo_describe 0 [some (.inr 68), some (.inl (nI B)), none, none, none, none, none] [] m Q := by
  have h1 := (zBase_in hb).1
  exact s_describe (tm := fun s => zctm T map cs (B + s)) hb (fun s hs => hc (B + s) (by omega)) (fun s => zctm_48 hT hok hpe) (zctm_sum hb hT hok hpe) hl hw (fun m' a1 a2 a3 a4 => hQ m' a1 ⟨a2.1, a3⟩ a4 (zCm_x a4 hc) (by
    have := zdsc_len (tm := fun s => zctm T map cs (B + s)) (S := S) (nb := nb) (zBase_in hb).2.2.1
    rw [List.length_append]
    omega))
theorem zBs1 : zBase 0 256 8 := Or.inl ⟨rfl, rfl, rfl⟩
theorem zBs2 : zBase 256 256 8 := Or.inr (Or.inl ⟨rfl, rfl, rfl⟩)
theorem zBs3 : zBase 512 32 5 := Or.inr (Or.inr (Or.inl ⟨rfl, rfl, rfl⟩))
theorem zBs4 : zBase 768 14 4 := Or.inr (Or.inr (Or.inr ⟨rfl, rfl, rfl⟩))
set_option maxHeartbeats 1000000 in
theorem m_coded {m : zM} {bs : List Bool} {way : Nat} {x2 x4 : Int32} (hmap : map = decide (way = 2)) (hw12 : way = 1 ∨ way = 2) (hT : zTm T m) (hP : zPm cs m) (hok : zCok p e cs) (he : e ≤ T.length) (hpe : e ≤ p + 48) (hz : ∀ i, i < 1024 → m 72 i = 0) (hl : bs.length ≤ 1310) (hw : zWM m bs)
    (hQ : ∀ m', zWM m' (bs ++ (zdsc (fun s => zctm T map cs (0 + s)) 256 8 ++ ((if map = true then zdsc (fun s => zctm T map cs (256 + s)) 256 8 else []) ++ (zdsc (fun s => zctm T map cs (512 + s)) 32 5 ++ (zdsc (fun s => zctm T map cs (768 + s)) 14 4 ++ zcbs T map (zctm T map cs) cs))))) → zFy m m' → Q none m') :
    zR κ (d + 3) Y_Mo_block 142 [some (.inr 68), some (.inl (nI p)), some (.inl x2), some (.inl (nI way)), some (.inl x4), none] [.inl (nI map.toNat), .inl (nI p), .inr 68] m Q := by
  have h1 := zbl_le hok hpe
  have a1 := zdsc_len (tm := fun s => zctm T map cs (0 + s)) (S := 256) (nb := 8) (by decide)
  have a2 := zdsc_len (tm := fun s => zctm T map cs (256 + s)) (S := 256) (nb := 8) (by decide)
  have a3 := zdsc_len (tm := fun s => zctm T map cs (512 + s)) (S := 32) (nb := 5) (by decide)
  have a4 := zdsc_len (tm := fun s => zctm T map cs (768 + s)) (S := 14) (nb := 4) (by decide)
  have hT256 := hT.2.2.2
  have k163 : ∀ (m3 : zM) (bs3 : List Bool), bs3.length ≤ 2930 → zFy m m3 → zCm (zctm T map cs) m3 → zWr1 0 256 (fun s => zctm T map cs (0 + s)) m3 → (map = true → zWr1 256 256 (fun s => zctm T map cs (256 + s)) m3) → zWM m3 bs3 → (∀ m', zWM m' (bs3 ++ (zdsc (fun s => zctm T map cs (512 + s)) 32 5 ++ (zdsc (fun s => zctm T map cs (768 + s)) 14 4 ++ zcbs T map (zctm T map cs) cs))) → zFy m m' → Q none m') → zR κ (d + 2 + 1) Y_Mo_block 163 [some (.inr 68), some (.inl (nI p)), some (.inl x2), some (.inl (nI way)), some (.inl x4), none] [] m3 Q := by
    intro m3 bs3 hl3 hF3 hc3 w1 w2 hw3 hend
    refine w_Mo_block_163 (m_desc zBs3 hT256 hok hpe hc3 (by omega) hw3 (fun m4 b1 b2 b3 b4 b5 => ⟨rfl, m_desc zBs4 hT256 hok hpe b4 (by omega) b1 (fun m5 c1 c2 c3 c4 c5 => ⟨rfl, ?_⟩)⟩))
    have hF5 : zFy m m5 := (hF3.tr b3.y).tr c3.y
    have hW5 : zWr map (zctm T map cs) m5 := by
      intro B S nb hb hm
      rcases hb with ⟨rfl, rfl, rfl⟩ | ⟨rfl, rfl, rfl⟩ | ⟨rfl, rfl, rfl⟩ | ⟨rfl, rfl, rfl⟩
      · exact zWr1_x (by decide) (Or.inl (by decide)) c3 (zWr1_x (by decide) (Or.inl (by decide)) b3 w1)
      · exact zWr1_x (by decide) (Or.inl (by decide)) c3 (zWr1_x (by decide) (Or.inl (by decide)) b3 (w2 (hm rfl)))
      · exact zWr1_x (by decide) (Or.inl (by decide)) c3 b2
      · exact c2
    have hthrough : zR κ (d + 2) Y_Mo_through 0 [some (.inr 68), some (.inl (nI p)), some (.inl (nI map.toNat)), some (.inl 1), none, none, none, none, none] [] m5 (fun r m3 => r = none ∧ Q none m3) := by
      refine m_write (zTm_y hF5 hT) (zPm_y hF5 hP) hok he hW5 (by omega) c1 (fun m6 e1 e2 => ⟨rfl, hend m6 ?_ (hF5.tr e2.y)⟩)
      rw [List.append_assoc, List.append_assoc] at e1
      exact e1
    refine ⟨fun g => ?_, fun g => ?_⟩
    · have g : ¬ way = 2 := fun w => g (by rw [w]; rfl)
      rw [hmap, decide_eq_false g] at hthrough
      rw [decide_eq_false g] at hmap
      subst hmap
      exact hthrough
    · have g : way = 2 := (nI_eq (by omega) (by decide)).mp g
      rw [decide_eq_true g] at hmap
      subst hmap
      exact hthrough
  refine w_Mo_block_142 (m_count hT hP hok he hz (fun m1 b1 b2 => ⟨rfl, ?_⟩))
  have hF1 : zFy m m1 := ⟨fun q q1 q2 => b2 q (by omega), fun k _ => by rw [b2 68 (by decide)]⟩
  have hw1 : zWM m1 bs := by
    unfold zWM
    rw [b2 68 (by decide), b2 71 (by decide)]
    exact hw
  refine m_desc zBs1 hT256 hok hpe b1 (by omega) hw1 (fun m2 c1 c2 c3 c4 c5 => ⟨rfl, fun g => ?_, fun g => ?_⟩)
  · have g : ¬ way = 2 := fun w => g (by rw [w]; rfl)
    rw [decide_eq_false g] at hmap
    rw [if_neg (by rw [hmap]; decide)] at hQ
    refine k163 m2 _ (by omega) (hF1.tr c3.y) c4 c2 (fun w => by rw [hmap] at w; cases w) c1 (fun m' e1 e2 => hQ m' ?_ e2)
    rw [List.append_assoc] at e1
    rw [List.nil_append]
    exact e1
  · have g : way = 2 := (nI_eq (by omega) (by decide)).mp g
    rw [decide_eq_true g] at hmap
    rw [if_pos hmap] at hQ
    refine m_desc zBs2 hT256 hok hpe c4 (by omega) c1 (fun m3 e1 e2 e3 e4 e5 => ⟨rfl, ?_⟩)
    refine k163 m3 _ (by omega) ((hF1.tr c3.y).tr e3.y) e4 (zWr1_x (by decide) (Or.inl (by decide)) e3 c2) (fun _ => e2) e1 (fun m' f1 f2 => hQ m' ?_ f2)
    rw [List.append_assoc, List.append_assoc] at f1
    exact f1
theorem m_padB {x1 x2 x3 x4 : Int32} : ∀ (r : Nat) (m : zM) (bs : List Bool), (8 - bs.length % 8) % 8 = r → bs.length + r ≤ 4000 → zWM m bs → (∀ m', zWM m' (bs ++ List.replicate r false) → zF68 m m' → zR κ (d + 1) Y_Mo_block 92 [some (.inr 68), some (.inl x1), some (.inl x2), some (.inl x3), some (.inl x4), some (.inl x1)] [] m' Q) → zR κ (d + 1) Y_Mo_block 70 [some (.inr 68), some (.inl x1), some (.inl x2), some (.inl x3), some (.inl x4), none] [] m Q := by
  intro r
  induction r with
  | zero =>
    intro m bs hr hl h hQ
    have hm : bs.length % 8 = 0 := by omega
    have e1 : m 68 8 - m 68 8 / 8 * 8 = nI (bs.length % 8) := by rw [h.1]; exact pk_rem (by omega) (by decide) (by decide)
    exact w_Mo_block_70 ⟨fun _ => hQ m (by simpa using h) zF68.rf, fun q => absurd (by rw [e1, hm]; decide) q⟩
  | succ r ih =>
    intro m bs hr hl h hQ
    have e1 : m 68 8 - m 68 8 / 8 * 8 = nI (bs.length % 8) := by rw [h.1]; exact pk_rem (by omega) (by decide) (by decide)
    refine w_Mo_block_70 ⟨fun q => absurd q (by rw [e1]; exact nI_nle (by omega) (by omega)), fun _ => ?_⟩
    refine s_number (x := 0) (n := 1) (by decide) (by omega) h (fun m' g1 g2 => ⟨rfl, ih m' (bs ++ zbits 0 0 1) ?_ ?_ g1 (fun m'' g3 g4 => ?_)⟩)
    · rw [List.length_append, zbits_length]; omega
    · rw [List.length_append, zbits_length]; omega
    · have e3 : bs ++ zbits 0 0 1 ++ List.replicate r false = bs ++ List.replicate (r + 1) false := by rw [zbits_0, List.append_assoc, List.replicate_succ]; rfl
      rw [e3] at g3
      exact hQ m'' g3 (g2.tr g4)
set_option maxHeartbeats 1000000 in
theorem m_block {m : zM} {bs : List Bool} {way : Nat} (hway : way ≤ 2) (hT : zTm T m) (hP : zPm cs m) (hok : zCok p e cs) (hlt : p < e) (he : e ≤ T.length) (hpe : e ≤ p + 48) (hl : bs.length ≤ 1300) (hw : zWM m bs)
    (hQ : ∀ m', zWM m' (zbkB T cs p e way bs) → zFy m m' → Q none m') : zR κ (d + 3) Y_Mo_block 0 [some (.inr 68), some (.inl (nI p)), some (.inl (nI e)), some (.inl (nI way)), none, none] [] m Q := by
  have h96 := hT.1
  have hhl := zhd_len (T := T) (p := p) (e := e) (way := way)
  have e6 : nI e - nI p - 1 = nI (e - p - 1) := by
    rw [nI_sub (by omega)]
    exact nI_sub (b := 1) (by omega)
  unfold zbkB at hQ
  -- the raw bytes
  have kraw : ∀ x4 : Int32, way = 0 → ∀ (m0 : zM) (bs0 : List Bool), bs0.length + 8 * (e - p) ≤ 4000 → zFy m m0 → zWM m0 bs0 → (∀ m', zWM m' (bs0 ++ zrw T (e - p) p) → zFy m m' → Q none m') → zR κ (d + 2 + 1) Y_Mo_block 92 [some (.inr 68), some (.inl (nI p)), some (.inl (nI e)), some (.inl (nI way)), some (.inl x4), some (.inl (nI p))] [] m0 Q := by
    intro x4 h0 m0 bs0 hl0 hF0 hw0 hend
    have key : ∀ (r q : Nat) (m2 : zM) (bs2 : List Bool), q + r = e → bs2.length + 8 * r ≤ 4000 → zFy m m2 → zWM m2 bs2 → bs2 ++ zrw T r q = bs0 ++ zrw T (e - p) p → zR κ (d + 2 + 1) Y_Mo_block 92 [some (.inr 68), some (.inl (nI p)), some (.inl (nI e)), some (.inl (nI way)), some (.inl x4), some (.inl (nI q))] [] m2 Q := by
      intro r
      induction r with
      | zero =>
        intro q m2 bs2 hq hl2 hF hw2 he2
        rw [zrw, List.append_nil] at he2
        rw [he2] at hw2
        exact w_Mo_block_92 ⟨fun _ => hend m2 hw2 hF, fun g => absurd (nI_le (by omega) (by omega)) g⟩
      | succ r ih =>
        intro q m2 bs2 hq hl2 hF hw2 he2
        rw [zrw] at he2
        have e69 : m2 69 q = nI (T.getD q 0) := (zTm_y hF hT).2.2.1 q (by omega)
        refine w_Mo_block_92 ⟨fun g => absurd g (nI_ge (by omega) (by omega)), fun _ => ⟨vp_in_nI (by omega) (by decide), ?_⟩⟩
        rw [nI_clamp (by omega), e69]
        refine s_number (n := 8) (by decide) (by omega) hw2 (fun m3 b1 b2 => ⟨rfl, ?_⟩)
        rw [nI_1]
        refine ih (q + 1) m3 _ (by omega) (by rw [List.length_append, zbits_length]; omega) (hF.tr b2.y) b1 ?_
        rw [List.append_assoc]
        exact he2
    exact key (e - p) p m0 bs0 (by omega) (by omega) hF0 hw0 rfl
  -- behind the header
  have k51 : ∀ (x4 s1 : Int32) (m1 : zM) (bs1 : List Bool), bs1.length ≤ 1302 → zF68 m m1 → zWM m1 bs1 → s1 = (if way = 0 then 0 else 1) → bs1 ++ (zbits s1 0 1 ++ zbits (nI (e - p - 1)) 0 6) = bs ++ zhd T p e way → zR κ (d + 2 + 1) Y_Mo_block 51 [some (.inr 68), some (.inl (nI p)), some (.inl (nI e)), some (.inl (nI way)), some (.inl x4), none] [.inl s1, .inr 68] m1 Q := by
    intro x4 s1 m1 bs1 hl1 hF hw1 hs1 heq
    refine w_Mo_block_51 (s_number (n := 1) (by decide) (by omega) hw1 (fun m2 a1 a2 => ⟨rfl, ?_⟩))
    rw [e6]
    refine s_number (n := 6) (by decide) (by rw [List.length_append, zbits_length]; omega) a1 (fun m3 b1 b2 => ⟨rfl, ?_⟩)
    rw [List.append_assoc, heq] at b1
    have hF3 := (hF.tr a2).tr b2
    have hl3 : (bs ++ zhd T p e way).length ≤ 1309 := by
      rw [List.length_append]
      omega
    refine ⟨fun g => ?_, fun g => ?_⟩
    · have g : ¬ way = 0 := fun w => g (by rw [w]; rfl)
      rw [if_neg g] at hQ
      have ew : nI way - 1 = nI (decide (way = 2)).toNat := by
        rcases (by omega : way = 1 ∨ way = 2) with w | w
        · subst w
          decide
        · subst w
          decide
      rw [ew]
      refine s_number (n := 1) (by decide) (by omega) b1 (fun m4 c1 c2 => ⟨rfl, s_Mo_forget (fun m5 f1 f2 => ⟨rfl, ?_⟩)⟩)
      have hF5 : zFy m m5 := (hF3.tr c2).y.tr ⟨fun q q1 q2 => f1 q (by omega), fun k _ => by rw [f1 68 (by decide)]⟩
      have hw5 : zWM m5 (bs ++ zhd T p e way ++ zbits (nI (decide (way = 2)).toNat) 0 1) := by
        unfold zWM
        rw [f1 68 (by decide), f1 71 (by decide)]
        exact c1
      have go : zR κ (d + 3) Y_Mo_block 142 [some (.inr 68), some (.inl (nI p)), some (.inl (nI e)), some (.inl (nI way)), some (.inl x4), none] [.inl (nI (decide (way = 2)).toNat), .inl (nI p), .inr 68] m5 Q := by
        refine m_coded rfl (by omega) (zTm_y hF5 hT) (zPm_y hF5 hP) hok he hpe f2 (by rw [List.length_append, zbits_length]; omega) hw5 (fun m6 g1 g2 => hQ m6 ?_ (hF5.tr g2))
        rw [List.append_assoc (bs ++ zhd T p e way)] at g1
        exact g1
      refine ⟨fun g2 => ?_, fun g2 => ?_⟩
      · have g2 : ¬ way = 2 := fun w => g2 (by rw [w]; rfl)
        rw [decide_eq_false g2] at go
        exact go
      · have g2 : way = 2 := (nI_eq (by omega) (by decide)).mp g2
        rw [decide_eq_true g2] at go
        exact go
    · have g : way = 0 := (nI_eq (by omega) (by decide)).mp g
      rw [if_pos g] at hQ
      refine m_padB _ m3 _ rfl (by omega) b1 (fun m4 c1 c2 => ?_)
      have hpl := zpad_len (bs ++ zhd T p e way)
      exact kraw x4 g m4 _ (by rw [show bs ++ zhd T p e way ++ List.replicate ((8 - (bs ++ zhd T p e way).length % 8) % 8) false = zpad (bs ++ zhd T p e way) from rfl]; omega) (hF3.tr c2).y c1 hQ
  have k26 : ∀ (m1 : zM) (bs1 : List Bool) (x4 : Int32), bs1.length ≤ 1302 → zF68 m m1 → zWM m1 bs1 → bs1 ++ (zbits (if way = 0 then 0 else 1) 0 1 ++ zbits (nI (e - p - 1)) 0 6) = bs ++ zhd T p e way → ((nI way ≤ 0 → zR κ (d + 2 + 1) Y_Mo_block 51 [some (.inr 68), some (.inl (nI p)), some (.inl (nI e)), some (.inl (nI way)), some (.inl x4), none] [.inl 0, .inr 68] m1 Q) ∧ (¬ nI way ≤ 0 → zR κ (d + 2 + 1) Y_Mo_block 51 [some (.inr 68), some (.inl (nI p)), some (.inl (nI e)), some (.inl (nI way)), some (.inl x4), none] [.inl 1, .inr 68] m1 Q)) := by
    intro m1 bs1 x4 hl1 hF hw1 heq
    refine ⟨fun g => ?_, fun g => ?_⟩
    · have g := (nI_leI (by omega) (by decide)).mp (show nI way ≤ nI 0 from g)
      have g : way = 0 := by omega
      exact k51 x4 0 m1 bs1 hl1 hF hw1 (by rw [if_pos g]) (by rw [if_pos g] at heq; exact heq)
    · have g : ¬ way = 0 := fun w => g (by rw [w]; exact Int32.le_refl _)
      exact k51 x4 1 m1 bs1 hl1 hF hw1 (by rw [if_neg g]) (by rw [if_neg g] at heq; exact heq)
  refine w_Mo_block_0 ?_
  rw [hT.2.1]
  refine ⟨fun g => w_Mo_block_26 (s_number (x := 0) (n := 1) (by decide) (by omega) hw (fun m1 a1 a2 => ⟨rfl, fun _ => k26 m1 _ 0 (by rw [List.length_append, zbits_length]; omega) a2 a1 ?_, fun g => absurd rfl g⟩)), fun g => w_Mo_block_26 (s_number (x := 1) (n := 1) (by decide) (by omega) hw (fun m1 a1 a2 => ⟨rfl, fun g => absurd g (by decide), fun _ => s_number (x := 0) (n := 1) (by decide) (by rw [List.length_append, zbits_length]; omega) a1 (fun m2 b1 b2 => ⟨rfl, k26 m2 _ 1 (by rw [List.length_append, List.length_append, zbits_length, zbits_length]; omega) (a2.tr b2) b1 ?_⟩)⟩))⟩
  · unfold zhd
    rw [if_neg (show ¬ e = T.length from fun w => g (by rw [w])), List.append_assoc]
  · unfold zhd
    rw [if_pos (show e = T.length from (nI_eq (by omega) (by omega)).mp g), List.append_assoc, List.append_assoc, show zbits 1 0 2 = zbits 1 0 1 ++ zbits 0 0 1 from by decide, List.append_assoc]
end zRblk
