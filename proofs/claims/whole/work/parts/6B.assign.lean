/-! the reference gives its code words -/
section zAssign
variable {κ : zK} {d : Nat} {Q : Option zV → zM → Prop}
/-- whatever the widths are: it ends, and writes the row of words alone -/
theorem s_assign_weak {B S : Nat} (hB : B + S ≤ 1024) : ∀ (rb b : Nat) (x3 x4 x5 : Int32) (m : zM), b + rb = 7 → (∀ m', (∀ q, q ≠ 74 → m' q = m q) → (∀ i, i < B ∨ B + S ≤ i → m' 74 i = m 74 i) → Q none m') → zR κ d Y_Mo_assign 11 [some (.inr 68), some (.inl (nI B)), some (.inl (nI S)), some (.inl x3), some (.inl x4), some (.inl x5), some (.inl (nI b)), none] [] m Q := by
  intro rb
  induction rb with
  | zero =>
    intro b x3 x4 x5 m hb hQ
    have eb : b = 7 := by omega
    subst eb
    exact w_Mo_assign_11 ⟨fun _ => hQ m (fun _ _ => rfl) (fun _ _ => rfl), fun q => absurd (by decide) q⟩
  | succ rb ihb =>
    intro b x3 x4 x5 m hb hQ
    refine w_Mo_assign_11 ⟨fun q => absurd q (show ¬ nI 6 < nI b from nI_nlt (by omega) (by decide)), fun _ => ?_⟩
    have inner : ∀ (r t : Nat) (x3 x4 x5 : Int32) (m1 : zM), t + r = S → (∀ q, q ≠ 74 → m1 q = m q) → (∀ i, i < B ∨ B + S ≤ i → m1 74 i = m 74 i) → zR κ d Y_Mo_assign 21 [some (.inr 68), some (.inl (nI B)), some (.inl (nI S)), some (.inl x3), some (.inl x4), some (.inl x5), some (.inl (nI b)), some (.inl (nI (B + t)))] [] m1 Q := by
      intro r
      induction r with
      | zero =>
        intro t x3 x4 x5 m1 ht hf hg
        refine w_Mo_assign_21 ⟨fun _ => ?_, fun q => absurd (by rw [nI_add]; exact nI_le (by omega) (by omega)) q⟩
        rw [nI_1]
        exact ihb (b + 1) x3 x4 x5 m1 (by omega) (fun m' hm hm2 => hQ m' (fun q hq => by rw [hm q hq, hf q hq]) (fun i hi => by rw [hm2 i hi, hg i hi]))
      | succ r ih =>
        intro t x3 x4 x5 m1 ht hf hg
        have hin : vp_in (nI (B + t)) 1024 := vp_in_nI (by omega) (by decide)
        have hn : nI (B + t) + 1 = nI (B + (t + 1)) := by rw [nI_1]; rfl
        have h59 : ∀ y : Int32, zR κ d Y_Mo_assign 59 [some (.inr 68), some (.inl (nI B)), some (.inl (nI S)), some (.inl x3), some (.inl x4), some (.inl x5), some (.inl (nI b)), some (.inl (nI (B + t)))] [.inl y] m1 Q := by
          intro y
          refine w_Mo_assign_59 ⟨hin, ?_⟩
          rw [hn, nI_clamp (by omega)]
          exact ih (t + 1) _ _ _ _ (by omega) (fun q hq => by rw [zms_ne hq]; exact hf q hq) (fun i hi => by rw [zms_nk (by omega)]; exact hg i hi)
        refine w_Mo_assign_21 ⟨fun q => absurd q (by rw [nI_add]; exact nI_ge (by omega) (by omega)), fun _ => ⟨hin, fun _ => ?_, fun _ => ⟨fun _ => h59 _, fun _ => h59 _⟩⟩⟩
        rw [hn]
        exact ih (t + 1) _ _ _ _ (by omega) hf hg
    have := inner S 0 x3 x4 x5 m (by omega) (fun _ _ => rfl) (fun _ _ => rfl)
    exact this
theorem s_assign_any {B S : Nat} {m : zM} (hB : B + S ≤ 1024) (hQ : ∀ m', (∀ q, q ≠ 74 → m' q = m q) → (∀ i, i < B ∨ B + S ≤ i → m' 74 i = m 74 i) → Q none m') : zR κ d Y_Mo_assign 0 [some (.inr 68), some (.inl (nI B)), some (.inl (nI S)), none, none, none, none, none] [] m Q :=
  w_Mo_assign_0 (s_assign_weak hB 7 0 0 0 1 m (by omega) hQ)
/-- the widths of a code: L are the symbols that have one, sorted by width and number -/
def zMs (B S : Nat) (wd : Nat → Nat) (L : List Nat) (m : zM) : Prop := (∀ s ∈ L, s < S ∧ wd s ≤ 6 ∧ m 73 (B + s) = nI (wd s)) ∧ (∀ s, s < S → s ∉ L → m 73 (B + s) = -1) ∧ L.Pairwise (fun a b => zrk wd a < zrk wd b)
/-- what stands on the reference's three running numbers behind j symbols -/
def zRun (g : Nat → Int32) (L : List Nat) (j : Nat) (x3 x4 x5 : Int32) : Prop := (j = 0 → x5 = 1) ∧ ∀ i, j = i + 1 → x5 = 0 ∧ x3 = zwI g L i ∧ x4 = g (L.getD i 0)
set_option maxHeartbeats 1000000 in
theorem s_assign {B S : Nat} {wd : Nat → Nat} {L : List Nat} {m : zM} (hB : B + S ≤ 1024) (hS : S ≤ 256) (h : zMs B S wd L m)
    (hQ : ∀ m', (∀ q, q ≠ 74 → m' q = m q) → (∀ i, i < B ∨ B + S ≤ i → m' 74 i = m 74 i) → (∀ k, k < L.length → m' 74 (B + L.getD k 0) = zwI (fun s => m 73 (B + s)) L k) → Q none m') : zR κ d Y_Mo_assign 0 [some (.inr 68), some (.inl (nI B)), some (.inl (nI S)), none, none, none, none, none] [] m Q := by
  obtain ⟨hL, hnL, hso⟩ := h
  have hinj : ∀ i j, i < L.length → j < L.length → L.getD i 0 = L.getD j 0 → i = j := by
    intro i j hi hj e
    rw [zgd_get _ _ hi, zgd_get _ _ hj] at e
    rcases Nat.lt_trichotomy i j with z | z | z
    · have := List.pairwise_iff_getElem.mp hso i j hi hj z
      rw [e] at this
      omega
    · exact z
    · have := List.pairwise_iff_getElem.mp hso j i hj hi z
      rw [e] at this
      omega
  have outer : ∀ (rb b j : Nat) (x3 x4 x5 : Int32) (m1 : zM), b + rb = 7 → j ≤ L.length → (∀ s ∈ L.take j, zrk wd s < b * 256) → (∀ s ∈ L.drop j, b * 256 ≤ zrk wd s) → zRun (fun s => m 73 (B + s)) L j x3 x4 x5 → (∀ q, q ≠ 74 → m1 q = m q) → (∀ i, i < B ∨ B + S ≤ i → m1 74 i = m 74 i) → (∀ k, k < j → m1 74 (B + L.getD k 0) = zwI (fun s => m 73 (B + s)) L k) → zR κ d Y_Mo_assign 11 [some (.inr 68), some (.inl (nI B)), some (.inl (nI S)), some (.inl x3), some (.inl x4), some (.inl x5), some (.inl (nI b)), none] [] m1 Q := by
    intro rb
    induction rb with
    | zero =>
      intro b j x3 x4 x5 m1 hb hj hA hD hR hf hg hw
      have eb : b = 7 := by omega
      subst eb
      refine w_Mo_assign_11 ⟨fun _ => hQ m1 hf hg (fun k hk => hw k ?_), fun q => absurd (by decide) q⟩
      rcases Nat.lt_or_ge j L.length with z | z
      · have hm : L[j] ∈ L.drop j := by rw [List.drop_eq_getElem_cons z]; exact List.mem_cons_self
        have h1 := hD _ hm
        have h2 := hL _ (List.getElem_mem z)
        unfold zrk at h1
        omega
      · omega
    | succ rb ihb =>
      intro b j x3 x4 x5 m1 hb hj hA hD hR hf hg hw
      refine w_Mo_assign_11 ⟨fun q => absurd q (show ¬ nI 6 < nI b from nI_nlt (by omega) (by decide)), fun _ => ?_⟩
      have inner : ∀ (r t j : Nat) (x3 x4 x5 : Int32) (m1 : zM), t + r = S → j ≤ L.length → (∀ s ∈ L.take j, zrk wd s < b * 256 + t) → (∀ s ∈ L.drop j, b * 256 + t ≤ zrk wd s) → zRun (fun s => m 73 (B + s)) L j x3 x4 x5 → (∀ q, q ≠ 74 → m1 q = m q) → (∀ i, i < B ∨ B + S ≤ i → m1 74 i = m 74 i) → (∀ k, k < j → m1 74 (B + L.getD k 0) = zwI (fun s => m 73 (B + s)) L k) → zR κ d Y_Mo_assign 21 [some (.inr 68), some (.inl (nI B)), some (.inl (nI S)), some (.inl x3), some (.inl x4), some (.inl x5), some (.inl (nI b)), some (.inl (nI (B + t)))] [] m1 Q := by
        intro r
        induction r with
        | zero =>
          intro t j x3 x4 x5 m1 ht hj hA hD hR hf hg hw
          refine w_Mo_assign_21 ⟨fun _ => ?_, fun q => absurd (by rw [nI_add]; exact nI_le (by omega) (by omega)) q⟩
          rw [nI_1]
          refine ihb (b + 1) j x3 x4 x5 m1 (by omega) hj (fun s hs => ?_) (fun s hs => ?_) hR hf hg hw
          · have := hA s hs
            omega
          · have h1 := hD s hs
            have h2 := hL s (List.mem_of_mem_drop hs)
            unfold zrk at h1 ⊢
            omega
        | succ r ih =>
          intro t j x3 x4 x5 m1 ht hj hA hD hR hf hg hw
          have hin : vp_in (nI (B + t)) 1024 := vp_in_nI (by omega) (by decide)
          have hn : nI (B + t) + 1 = nI (B + (t + 1)) := by rw [nI_1]; rfl
          have e73 : m1 73 (B + t) = m 73 (B + t) := by rw [hf 73 (by decide)]
          refine w_Mo_assign_21 ⟨fun q => absurd q (by rw [nI_add]; exact nI_ge (by omega) (by omega)), fun _ => ⟨hin, fun q => ?_, fun q => ?_⟩⟩
          · rw [hn]
            rw [nI_clamp (by omega), e73] at q
            have hno : ∀ s ∈ L, zrk wd s ≠ b * 256 + t := by
              intro s hs e
              obtain ⟨g1, g2, g3⟩ := hL s hs
              unfold zrk at e
              have es : s = t := by omega
              have eb : wd s = b := by omega
              rw [es] at g3 eb
              exact q (by rw [g3, eb])
            refine ih (t + 1) j x3 x4 x5 m1 (by omega) hj (fun s hs => ?_) (fun s hs => ?_) hR hf hg hw
            · have := hA s hs
              omega
            · have h1 := hD s hs
              have h2 := hno s (List.mem_of_mem_drop hs)
              omega
          · rw [nI_clamp (by omega), e73] at q
            have htL : t ∈ L := by
              by_cases z : t ∈ L
              · exact z
              · rw [hnL t (by omega) z] at q
                have : nI b = -1 := q.symm
                exact absurd this (by
                  intro e
                  have h1 : (nI b).toInt = (b : Int) := nI_toInt (by omega)
                  rw [e] at h1
                  have h2 : (-1 : Int32).toInt = -1 := by decide
                  omega)
            obtain ⟨g1, g2, g3⟩ := hL t htL
            have hwt : wd t = b := by
              rw [g3] at q
              exact (nI_eq (by omega) (by omega)).mp q
            have hrt : zrk wd t = b * 256 + t := by unfold zrk; rw [hwt]
            have htd : t ∈ L.drop j := by
              have h1 : t ∈ L.take j ++ L.drop j := by rw [List.take_append_drop]; exact htL
              rcases List.mem_append.mp h1 with z | z
              · have := hA t z; omega
              · exact z
            have hjl : j < L.length := by
              rcases Nat.lt_or_ge j L.length with z | z
              · exact z
              · rw [List.drop_eq_nil_of_le z] at htd; exact absurd htd List.not_mem_nil
            have hdr : L.drop j = L[j] :: L.drop (j + 1) := List.drop_eq_getElem_cons hjl
            have hpd : (L.drop j).Pairwise (fun a b => zrk wd a < zrk wd b) := hso.drop
            have ejt : L[j] = t := by
              rw [hdr] at htd hpd
              rcases List.mem_cons.mp htd with e | e
              · exact e.symm
              · have h1 := (List.pairwise_cons.mp hpd).1 t e
                have h2 := hD L[j] (by rw [hdr]; exact List.mem_cons_self)
                omega
            have ejd : L.getD j 0 = t := by rw [zgd_get _ _ hjl]; exact ejt
            have h59 : ∀ y : Int32, y = zwI (fun s => m 73 (B + s)) L j → zR κ d Y_Mo_assign 59 [some (.inr 68), some (.inl (nI B)), some (.inl (nI S)), some (.inl x3), some (.inl x4), some (.inl x5), some (.inl (nI b)), some (.inl (nI (B + t)))] [.inl y] m1 Q := by
              intro y hy
              refine w_Mo_assign_59 ⟨hin, ?_⟩
              rw [hn, nI_clamp (by omega)]
              refine ih (t + 1) (j + 1) y (nI b) 0 _ (by omega) (by omega) (fun s hs => ?_) (fun s hs => ?_) ⟨fun e => by omega, fun i e => ?_⟩ (fun q hq => by rw [zms_ne hq]; exact hf q hq) (fun i hi => by rw [zms_nk (by omega)]; exact hg i hi) (fun k hk => ?_)
              · rw [List.take_succ_eq_append_getElem hjl] at hs
                rcases List.mem_append.mp hs with z | z
                · have := hA s z; omega
                · rw [List.mem_singleton.mp z, ejt, hrt]; omega
              · have h1 := (List.pairwise_cons.mp (by rw [← hdr]; exact hpd)).1 s hs
                rw [ejt, hrt] at h1
                omega
              · have ei : i = j := by omega
                subst ei
                refine ⟨rfl, hy, ?_⟩
                show nI b = m 73 (B + L.getD i 0)
                rw [ejd, g3, hwt]
              · by_cases hkj : k = j
                · subst hkj
                  rw [ejd, zms_ss, hy]
                · rw [zms_nk (fun e => hkj (hinj k j (by omega) hjl (by omega)))]
                  exact hw k (by omega)
            refine ⟨fun q5 => h59 _ ?_, fun q5 => h59 _ ?_⟩
            · cases j with
              | zero => rw [hR.1 rfl] at q5; exact absurd q5 (by decide)
              | succ i =>
                obtain ⟨r1, r2, r3⟩ := hR.2 i rfl
                rw [zwI, r2, r3]
                show _ = (zwI (fun s => m 73 (B + s)) L i + 1) <<< ((m 73 (B + L.getD (i + 1) 0) - m 73 (B + L.getD i 0)) &&& 31)
                rw [ejd, g3, hwt]
            · cases j with
              | zero => rw [zwI]
              | succ i => rw [(hR.2 i rfl).1] at q5; exact absurd rfl q5
      have := inner S 0 j x3 x4 x5 m1 (by omega) hj (fun s hs => Nat.lt_of_lt_of_le (hA s hs) (Nat.le_add_right _ _)) (fun s hs => by rw [Nat.add_zero]; exact hD s hs) hR hf hg hw
      exact this
  have hfin := outer 7 0 0 0 0 1 m (by omega) (Nat.zero_le _) (fun s hs => by rw [List.take_zero] at hs; exact absurd hs List.not_mem_nil) (fun s _ => by rw [Nat.zero_mul]; exact Nat.zero_le _) ⟨fun _ => rfl, fun i e => by omega⟩ (fun _ _ => rfl) (fun _ _ => rfl) (fun k hk => absurd hk (Nat.not_lt_zero k))
  exact w_Mo_assign_0 hfin
end zAssign
