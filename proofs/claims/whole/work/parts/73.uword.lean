/-! code words by the pure rule, on both sides -/
section zUword
variable {κ : zK} {d : Nat} {Q : Option zV → zM → Prop} {f : Nat → Int32} {sz P : Nat}
theorem zneg_nI' {b : Nat} (hb : b < 256) : ¬ (-1 : Int32) = nI b := by
  intro e
  have h1 : (nI b).toInt = (b : Int) := nI_toInt (by omega)
  rw [← e] at h1
  have h2 : (-1 : Int32).toInt = -1 := by decide
  omega
theorem nI_sub {a b : Nat} (h : b ≤ a) : nI a - nI b = nI (a - b) := by
  have e : nI a = nI (a - b) + nI b := by rw [nI_add, Nat.sub_add_cancel h]
  rw [e, Int32.add_sub_cancel]
theorem bI_nI {x : Nat} (h : x < 256) : bI (nI x) = 1 := by
  unfold bI
  rw [if_neg (nI_pos (by omega)), if_neg (show ¬ (255 : Int32) < nI x from nI_nlt (a := 255) (by omega) (by decide))]
theorem zRdy_of {c n : Nat} {m m' : zM} {l : List (Nat × Nat)} {L : List Nat} (h0 : m' c = m c) (h1 : m' (c + 1) = m (c + 1)) (h3 : m' (c + 3) = m (c + 3)) (h4 : m' (c + 4) = m (c + 4)) (h : zRdy c n m l L) : zRdy c n m' l L := by
  obtain ⟨a1, a2, a3, a4, a5, a6⟩ := h
  refine ⟨zLst_of h0 h1 h3 a1, a2, a3, ?_, ?_, ?_⟩
  · rw [h3]; exact a4
  · rw [h3]; exact a5
  · rw [h3, h4]; exact a6
theorem zrs_of {N : Nat} {l : List (Nat × Nat)} {y : Int32} {P' s : Nat} (hs : s < 256) (e : y = nI s) (h : zrdSym f N (zTL l) (zwd l) (zwv l) P = some (y, P')) : zrs f N l P = some (s, P') := by
  unfold zrs
  rw [h]
  show some (y.toNatClampNeg, P') = some (s, P')
  rw [e, nI_clamp (by omega)]
theorem zrs_none {N : Nat} {l : List (Nat × Nat)} (h : zrdSym f N (zTL l) (zwd l) (zwv l) P = none) : zrs f N l P = none := by
  unfold zrs
  rw [h]
/-- what a good description says of its sorted symbols -/
theorem zTL_facts {S : Nat} {l : List (Nat × Nat)} (hS : S ≤ 256) (hg : zGood S l) : zTL l ≠ [] ∧ (∀ s ∈ zTL l, s < S ∧ s < 256) ∧ (∀ s, zwd l s ≤ 6) ∧ (¬ (zTL l).length = 1 → ∀ s ∈ zTL l, 1 ≤ zwd l s) ∧ ((zTL l).length = 1 → ∀ s ∈ zTL l, zwd l s = 0) ∧ (zTL l).Pairwise (fun a b => zwd l a ≤ zwd l b) ∧ (zTL l).Nodup := by
  obtain ⟨g0, g1, g2, g3, g4⟩ := hg
  have hlen : (zTL l).length = l.length := by rw [(zTL_perm l).length_eq, List.length_map]
  have h256 : ∀ p ∈ l, p.1 < 256 := fun p hp => Nat.lt_of_lt_of_le (g2 p hp).1 hS
  have hm : ∀ s ∈ zTL l, ∃ p ∈ l, p.1 = s := fun s hs => List.mem_map.mp ((zTL_perm l).mem_iff.mp hs)
  refine ⟨fun z => g0 ?_, fun s hs => ?_, fun s => zwd_le (fun p hp => (g2 p hp).2), fun hl s hs => ?_, fun hl s hs => ?_, ?_, (zTL_perm l).nodup_iff.mpr g1⟩
  · rw [z] at hlen
    exact List.length_eq_zero_iff.mp hlen.symm
  · obtain ⟨p, hp, rfl⟩ := hm s hs
    exact ⟨(g2 p hp).1, h256 p hp⟩
  · obtain ⟨p, hp, rfl⟩ := hm s hs
    rw [zwd_in g1 hp]
    exact (g4 (by rw [← hlen]; exact hl)).1 p hp
  · obtain ⟨p, hp, rfl⟩ := hm s hs
    rw [zwd_in g1 hp]
    exact g3 (by rw [← hlen]; exact hl) p hp
  · refine List.Pairwise.imp_of_mem (fun {a b} ha hb hab => ?_) (zTL_pair g1 h256)
    obtain ⟨p, hp, rfl⟩ := hm a ha
    obtain ⟨q, hq, rfl⟩ := hm b hb
    have := h256 p hp
    have := h256 q hq
    unfold zrk at hab
    omega
theorem r_word {c S : Nat} {m : zM} {ov : Bool} {l : List (Nat × Nat)} {L : List Nat} (hc : is_Code c S) (hc11 : 11 ≤ c) (hS : S ≤ 256) (hr : zRdy c S m l L) (hg : zGood S l) (hs : zS f sz P ov m)
    (hQ : ∀ (y : Int32) (P' : Nat) (ov' : Bool) (m' : zM), (y = -1 ∨ ∃ s, s < S ∧ y = nI s) → zS f sz P' ov' m' → (∀ q, q ≠ 3 → m' q = m q) → (ov = true → ov' = true) → (ov = false → (∃ s, s < S ∧ y = nI s ∧ zrs f (8 * sz) l P = some (s, P') ∧ ov' = false) ∨ (zrs f (8 * sz) l P = none ∧ ov' = true)) → Q (some (.inl y)) m') :
    zR κ (d + 1) Y_Code_readWord 0 [some (.inr c), some (.inr 3), none, none, none] [] m Q := by
  obtain ⟨f1, f2, f3, f4, f5, f6, f7⟩ := zTL_facts hS hg
  obtain ⟨hl, hp, hn, hb, hso, hw⟩ := hr
  have h256 : ∀ p ∈ l, p.1 < 256 := fun p hp => Nat.lt_of_lt_of_le (hg.2.2.1 p hp).1 hS
  have hwd : ∀ s, s < S → m (c + 3) s = nI (zwd l s) := by
    intro s hs
    by_cases hin : s ∈ l.map Prod.fst
    · obtain ⟨p, hp', rfl⟩ := List.mem_map.mp hin
      rw [zwd_in hn hp']
      exact (hb p hp').1
    · rw [zwd_out hin]
      exact hl.2.2.2.2 s hs (fun z => hin (hp.mem_iff.mp z))
  have hcl : ∀ s ∈ L, (m (c + 3) s).toNatClampNeg = zwd l s := by
    intro s hs
    rw [hwd s (hl.2.1 s hs), nI_clamp (Nat.lt_of_le_of_lt (f3 s) (by decide))]
  have eL : L = zTL l := zL_eq hn h256 hp hso hcl
  subst eL
  have hv : ∀ s ∈ zTL l, m (c + 4) s = zwv l s := by
    intro s hs
    obtain ⟨k, hk, rfl⟩ := zget_ix hs
    rw [hw k hk]
    unfold zwv
    rw [zix_get f7 hk]
    exact zwI_congr (fun t ht => hwd t (f2 t ht).1) k hk
  have hcg : zrdSym f (8 * sz) (zTL l) (zwd l) (m (c + 4)) P = zrdSym f (8 * sz) (zTL l) (zwd l) (zwv l) P := zrdSym_congr (fun _ _ => rfl) hv
  refine s_readWord hc hc11 hS hl f1 hwd f3 f4 f6 hs (fun y P' ov' m' a1 a2 a3 a4 a5 => hQ y P' ov' m' ?_ a2 a3 a4 (fun e => ?_))
  · rcases a1 with a1 | ⟨s, hs, e⟩
    · exact Or.inl a1
    · exact Or.inr ⟨s, (f2 s hs).1, e⟩
  · rcases a5 e with ⟨b1, b2⟩ | ⟨b1, b2⟩
    · rw [hcg] at b1
      obtain ⟨s, hs, e⟩ := zfull hS hg b1
      exact Or.inl ⟨s, (f2 s hs).1, e, zrs_of (f2 s hs).2 e b1, b2⟩
    · rw [hcg] at b1
      exact Or.inr ⟨zrs_none b1, b2⟩
theorem r_sym {B S nb : Nat} {m : zM} {br : Bool} {l : List (Nat × Nat)} (hb : zBase B S nb) (hs : zSM f sz P br m) (ht : br = false → (∃ L, zMR B S m l L) ∧ zGood S l)
    (hQ : ∀ (y : Int32) (P' : Nat) (br' : Bool) (m' : zM), (∃ s, s < S ∧ y = nI s) → zSM f sz P' br' m' → (∀ q, q ≠ 68 → m' q = m q) → (∀ i, i ≠ 7 → i ≠ 8 → i ≠ 28 → m' 68 i = m 68 i) → (br' = false → br = false ∧ m' 68 7 = m 68 7 + 1 ∧ ∃ s, s < S ∧ y = nI s ∧ zrs f (8 * sz) l P = some (s, P')) → (br' = true → br = true ∨ zrs f (8 * sz) l P = none) → Q (some (.inl y)) m') :
    zR κ (d + 1) Y_Mo_readSymbol 0 [some (.inr 68), some (.inl (nI B)), none, none, none, none] [] m Q := by
  obtain ⟨hBS, hS, hnb, hnb1⟩ := zBase_in hb
  refine s_readSymbol (L := zTL l) (wd := zwd l) (wv := zwv l) hb hs (fun hbr => ?_) (fun y P' br' m' a0 a1 a2 a3 a4 a5 => hQ y P' br' m' a0 a1 a2 a3 (fun e => ?_) (fun e => ?_))
  · obtain ⟨⟨L, hw, hp, hso, hk⟩, hg⟩ := ht hbr
    obtain ⟨f1, f2, f3, f4, f5, f6, f7⟩ := zTL_facts hS hg
    obtain ⟨w1, w2, w3⟩ := hw
    have h256 : ∀ p ∈ l, p.1 < 256 := fun p hp => Nat.lt_of_lt_of_le (w1 p hp).1 hS
    have hwd : ∀ s ∈ L, m 73 (B + s) = nI (zwd l s) := by
      intro s hs
      obtain ⟨p, hp', rfl⟩ := List.mem_map.mp (hp.mem_iff.mp hs)
      rw [zwd_in w3 hp']
      exact (w1 p hp').2.2
    have eL : L = zTL l := zL_eq w3 h256 hp hso (fun s hs => by
      rw [hwd s hs, nI_clamp (Nat.lt_of_le_of_lt (f3 s) (by decide))])
    subst eL
    have hv : ∀ k, k < (zTL l).length → m 74 (B + (zTL l).getD k 0) = zwI (fun t => nI (zwd l t)) (zTL l) k := by
      intro k hk'
      rw [hk k hk']
      exact zwI_congr (fun t ht => hwd t ht) k hk'
    have hvv : ∀ k, k < (zTL l).length → zwv l ((zTL l).getD k 0) = zwI (fun t => nI (zwd l t)) (zTL l) k := by
      intro k hk'
      unfold zwv
      rw [zix_get f7 hk']
    have hpos : 0 < (zTL l).length := List.length_pos_iff.mpr f1
    refine ⟨⟨fun s hs => ⟨(f2 s hs).1, f3 s, hwd s hs, ?_⟩, fun s hs hn => w2 s hs (fun z => hn ((zTL_perm l).mem_iff.mpr z)), zTL_pair w3 h256⟩, fun h1 => ⟨f5 h1 _ (zget_mem hpos), ?_⟩, f4⟩
    · obtain ⟨k, hk', rfl⟩ := zget_ix hs
      rw [hv k hk', hvv k hk']
    · rw [hvv 0 hpos] <;> rfl
  · obtain ⟨b1, b2, ⟨s, hs, e'⟩, b4⟩ := a4 e
    obtain ⟨-, hg⟩ := ht b1
    obtain ⟨f1, f2, f3, f4, f5, f6, f7⟩ := zTL_facts hS hg
    exact ⟨b1, b2, s, (f2 s hs).1, e', zrs_of (f2 s hs).2 e' b4⟩
  · cases hbr : br with
    | true => exact Or.inl rfl
    | false =>
      rcases a5 e with q | q | ⟨P1, q⟩
      · rw [hbr] at q
        cases q
      · exact Or.inr (zrs_none q)
      · obtain ⟨-, hg⟩ := ht hbr
        obtain ⟨f1, f2, f3, f4, f5, f6, f7⟩ := zTL_facts hS hg
        obtain ⟨s, hs, e'⟩ := zfull hS hg q
        exact absurd e' (zneg_nI' (f2 s hs).2)
end zUword
