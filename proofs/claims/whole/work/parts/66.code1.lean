/-! the class's prefix code: the listed symbols -/
section zCode1
variable {κ : zK} {d : Nat} {mem : zM} {Q : Option zV → zM → Prop} {c n : Nat}
theorem zget_mem {l : List Nat} {k : Nat} (h : k < l.length) : l.getD k 0 ∈ l := by
  rw [zgd_get _ _ h]
  exact List.getElem_mem h
theorem s_forgetListed {l : List Nat} (hc : is_Code c n) (hn : n ≤ 256) (h : zLst c n mem l) (hQ : ∀ m', (∀ q, q ≠ c → q ≠ c + 3 → m' q = mem q) → (∀ k, k ≠ 6 → m' c k = mem c k) → m' c 6 = 0 → (∀ s, s < n → m' (c + 3) s = 0) → Q none m') : zR κ d Y_Code_forgetListed 0 [some (.inr c), none] [] mem Q := by
  obtain ⟨h64, hlt, h6, hl, h0⟩ := h
  have key : ∀ (r k : Nat) (m : zM), k + r = l.length → (∀ q, q ≠ c + 3 → m q = mem q) → (∀ s, s < n → s ∉ l.drop k → m (c + 3) s = 0) → zR κ d Y_Code_forgetListed 2 [some (.inr c), some (.inl (nI k))] [] m Q := by
    intro r
    induction r with
    | zero =>
      intro k m hk hf hz
      have ek : k = l.length := by omega
      refine w_Code_forgetListed_2 hc ⟨fun _ => ?_, fun q => absurd (by rw [hf c (by omega), h6, ek]; exact nI_le (Nat.le_refl _) (by omega)) q⟩
      refine hQ _ (fun q h1 h2 => by rw [zms_ne h1, hf q h2]) (fun j hj => by rw [zms_nk hj, hf c (by omega)]) zms_ss (fun s hs => ?_)
      rw [zms_ne (by omega)]
      exact hz s hs (by rw [ek, List.drop_length]; exact List.not_mem_nil)
    | succ r ih =>
      intro k m hk hf hz
      have hkl : k < l.length := by omega
      have es : m (c + 1) k = nI (l.getD k 0) := by rw [hf (c + 1) (by omega)]; exact hl k hkl
      have hs := hlt _ (zget_mem hkl)
      refine w_Code_forgetListed_2 hc ⟨fun q => absurd q (by rw [hf c (by omega), h6]; exact nI_ge (by omega) (by omega)), fun _ => ?_⟩
      rw [nI_clamp (by omega), es, nI_clamp (by omega), nI_1]
      refine ⟨vp_in_nI (by omega) (by decide), vp_in_nI hs (by omega), ih (k + 1) _ (by omega) (fun q hq => by rw [zms_ne hq]; exact hf q hq) (fun s h1 h2 => ?_)⟩
      by_cases hsl : s = l.getD k 0
      · rw [hsl, zms_ss]
      · rw [zms_nk hsl]
        refine hz s h1 (fun hm => ?_)
        rw [List.drop_eq_getElem_cons hkl] at hm
        rcases List.mem_cons.mp hm with e | e
        · exact hsl (by rw [e, zgd_get _ _ hkl])
        · exact h2 e
  refine w_Code_forgetListed_0 hc ?_
  exact key l.length 0 mem (by omega) (fun _ _ => rfl) (fun s h1 h2 => h0 s h1 (by simpa using h2))
theorem s_list {l : List Nat} {s : Nat} {x : Int32} (hc : is_Code c n) (hn : n ≤ 256) (h : zLst c n mem l) (h64 : l.length < 64) (hs : s < n) (hQ : ∀ m', (∀ q, q ≠ c → q ≠ c + 1 → q ≠ c + 3 → m' q = mem q) → (∀ k, k ≠ 6 → m' c k = mem c k) → zLst c n m' (l ++ [s]) → m' (c + 3) s = x → (∀ t, t ≠ s → m' (c + 3) t = mem (c + 3) t) → Q none m') : zR κ d Y_Code_list 0 [some (.inr c), some (.inl (nI s)), some (.inl x)] [] mem Q := by
  obtain ⟨h64', hlt, h6, hl, h0⟩ := h
  have e6 : (zms mem (c + 1) (mem c 6).toNatClampNeg (nI s)) c 6 = nI l.length := by rw [zms_ne (by omega)]; exact h6
  refine w_Code_list_0 hc ⟨fun q => absurd q (by rw [h6]; exact nI_ge (a := l.length) (b := 64) h64 (by decide)), fun _ => ?_⟩
  rw [e6, h6, nI_clamp (by omega), nI_clamp (by omega), nI_1]
  refine ⟨vp_in_nI h64 (by decide), vp_in_nI hs (by omega), hQ _ (fun q h1 h2 h3 => by rw [zms_ne h3, zms_ne h1, zms_ne h2]) (fun k hk => by rw [zms_ne (by omega), zms_nk hk, zms_ne (by omega)]) ?_ zms_ss (fun t ht => by rw [zms_nk ht, zms_ne (by omega), zms_ne (by omega)])⟩
  refine ⟨by rw [List.length_append, List.length_singleton]; omega, fun t ht => ?_, by rw [zms_ne (by omega), zms_ss, List.length_append, List.length_singleton], fun k hk => ?_, fun t h1 h2 => ?_⟩
  · rcases List.mem_append.mp ht with e | e
    · exact hlt t e
    · rw [List.mem_singleton.mp e]; exact hs
  · rw [List.length_append, List.length_singleton] at hk
    rw [zms_ne (by omega), zms_ne (by omega)]
    by_cases hkl : k = l.length
    · subst hkl
      rw [zms_ss]
      simp
    · rw [zms_nk hkl, hl k (by omega), zgd_left _ _ _ (by omega)]
  · have hts : t ≠ s := fun e => h2 (by rw [e]; simp)
    rw [zms_nk hts, zms_ne (by omega), zms_ne (by omega)]
    exact h0 t h1 (fun e => h2 (List.mem_append_left _ e))
theorem s_isListed {l : List Nat} {s : Nat} (hc : is_Code c n) (h : zLst c n mem l) (hs : s < 2 ^ 31) (hn : n ≤ 256) (hQ : Q (some (.inl (if s ∈ l then 1 else 0))) mem) : zR κ d Y_Code_isListed 0 [some (.inr c), some (.inl (nI s)), none] [] mem Q := by
  obtain ⟨h64, hlt, h6, hl, h0⟩ := h
  have key : ∀ (r k : Nat), k + r = l.length → (∀ t ∈ l.take k, t ≠ s) → zR κ d Y_Code_isListed 2 [some (.inr c), some (.inl (nI s)), some (.inl (nI k))] [] mem Q := by
    intro r
    induction r with
    | zero =>
      intro k hk hz
      have ek : k = l.length := by omega
      refine w_Code_isListed_2 hc ⟨fun _ => ?_, fun q => absurd (by rw [h6, ek]; exact nI_le (Nat.le_refl _) (by omega)) q⟩
      rw [if_neg (fun e => hz s (by rw [ek, List.take_length]; exact e) rfl)] at hQ
      exact hQ
    | succ r ih =>
      intro k hk hz
      have hkl : k < l.length := by omega
      refine w_Code_isListed_2 hc ⟨fun q => absurd q (by rw [h6]; exact nI_ge (by omega) (by omega)), fun _ => ⟨vp_in_nI (by omega) (by decide), ?_⟩⟩
      rw [nI_clamp (by omega), hl k hkl, nI_1]
      have hm := hlt _ (zget_mem hkl)
      refine ⟨fun q => ih (k + 1) (by omega) (fun t ht => ?_), fun q => ?_⟩
      · rw [List.take_succ_eq_append_getElem hkl] at ht
        rcases List.mem_append.mp ht with e | e
        · exact hz t e
        · rw [List.mem_singleton.mp e]
          intro e2
          exact q (by rw [zgd_get _ _ hkl, e2])
      · have e := (nI_eq (a := l.getD k 0) (b := s) (by omega) hs).mp q
        rw [if_pos (by rw [← e]; exact zget_mem hkl)] at hQ
        exact hQ
  refine w_Code_isListed_0 hc ?_
  exact key l.length 0 (by omega) (fun t ht => by simp at ht)
/-- the code words along the listed symbols -/
def zwI (f : Nat → Int32) (l : List Nat) : Nat → Int32
  | 0 => 0
  | k + 1 => (zwI f l k + 1) <<< ((f (l.getD (k + 1) 0) - f (l.getD k 0)) &&& 31)
theorem s_giveCodeWords {l : List Nat} (hc : is_Code c n) (hn : n ≤ 256) (h : zLst c n mem l) (hnd : l.Nodup) (hQ : ∀ m', (∀ q, q ≠ c + 4 → m' q = mem q) → (∀ k, k < l.length → m' (c + 4) (l.getD k 0) = zwI (mem (c + 3)) l k) → Q none m') : zR κ d Y_Code_giveCodeWords 0 [some (.inr c), none, none] [] mem Q := by
  obtain ⟨h64, hlt, h6, hl, h0⟩ := h
  have inj : ∀ i j, i < l.length → j < l.length → l.getD i 0 = l.getD j 0 → i = j := by
    intro i j hi hj e
    rw [zgd_get _ _ hi, zgd_get _ _ hj] at e
    exact (List.getElem_inj hnd).mp e
  have key : ∀ (r k : Nat) (m : zM) (x : Int32), k + r = l.length → (∀ q, q ≠ c + 4 → m q = mem q) → (∀ j, j < k → m (c + 4) (l.getD j 0) = zwI (mem (c + 3)) l j) → (k = 0 → x = 0) → (∀ j, k = j + 1 → x = zwI (mem (c + 3)) l j) → zR κ d Y_Code_giveCodeWords 4 [some (.inr c), some (.inl x), some (.inl (nI k))] [] m Q := by
    intro r
    induction r with
    | zero =>
      intro k m x hk hf hz hx0 hx1
      have ek : k = l.length := by omega
      refine w_Code_giveCodeWords_4 hc ⟨fun _ => hQ m hf (fun j hj => hz j (by omega)), fun q => absurd (by rw [hf c (by omega), h6, ek]; exact nI_le (Nat.le_refl _) (by omega)) q⟩
    | succ r ih =>
      intro k m x hk hf hz hx0 hx1
      have hkl : k < l.length := by omega
      have es : ∀ j, j < l.length → m (c + 1) j = nI (l.getD j 0) := fun j hj => by rw [hf (c + 1) (by omega)]; exact hl j hj
      have hs := hlt _ (zget_mem hkl)
      have hfin : ∀ y, y = zwI (mem (c + 3)) l k → zR κ d Y_Code_giveCodeWords 46 [some (.inr c), some (.inl y), some (.inl (nI k))] [] m Q := by
        intro y hy
        refine w_Code_giveCodeWords_46 hc ⟨vp_in_nI (by omega) (by decide), ?_⟩
        rw [nI_clamp (by omega), es k hkl, nI_clamp (by omega), nI_1]
        refine ⟨vp_in_nI hs (by omega), ih (k + 1) _ y (by omega) (fun q hq => by rw [zms_ne hq]; exact hf q hq) (fun j hj => ?_) (fun e => by omega) (fun j e => by rw [show j = k by omega]; exact hy)⟩
        by_cases hjk : j = k
        · subst hjk
          rw [zms_ss, hy]
        · rw [zms_nk (fun e => hjk (inj j k (by omega) hkl e))]
          exact hz j (by omega)
      refine w_Code_giveCodeWords_4 hc ⟨fun q => absurd q (by rw [hf c (by omega), h6]; exact nI_ge (by omega) (by omega)), fun _ => ⟨fun q => ?_, fun q => ?_⟩⟩
      · have hk0 : k = 0 := by
          rcases Nat.eq_zero_or_pos k with z | z
          · exact z
          · exact absurd q (nI_nle z (by omega))
        refine hfin x ?_
        subst hk0
        rw [hx0 rfl, zwI]
      · have hk0 : 0 < k := by
          rcases Nat.eq_zero_or_pos k with z | z
          · exact absurd (by rw [z]; decide) q
          · exact z
        obtain ⟨j, rfl⟩ : ∃ j, k = j + 1 := ⟨k - 1, by omega⟩
        have hs' := hlt _ (zget_mem (l := l) (k := j) (by omega))
        rw [show nI (j + 1) - 1 = nI j from nI_pred j, nI_clamp (by omega), nI_clamp (by omega), es _ hkl, es j (by omega), nI_clamp (by omega), nI_clamp (by omega), hf (c + 3) (by omega)]
        refine ⟨vp_in_nI (by omega) (by decide), vp_in_nI hs (by omega), vp_in_nI (by omega) (by decide), vp_in_nI hs' (by omega), ?_⟩
        rw [hx1 j rfl]
        exact hfin _ rfl
  refine w_Code_giveCodeWords_0 hc ?_
  exact key l.length 0 mem 0 (by omega) (fun _ _ => rfl) (fun j hj => absurd hj (Nat.not_lt_zero j)) (fun _ => rfl) (fun j e => by omega)
end zCode1
