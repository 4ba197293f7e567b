/-! append, poke, trim -/
section zSimple2
variable {κ : zK} {d : Nat} {mem : zM} {Q : Option zV → zM → Prop}
theorem s_BS_add {n : Nat} {x : Int32} (hn : mem 3 1 = nI n) (h200 : n ≤ 200) (h1 : bI x = 1 → n < 200 → Q (some (.inl 1)) (zms (zms mem 4 n x) 3 1 (nI (n + 1)))) (h0 : ¬ (bI x = 1 ∧ n < 200) → Q (some (.inl 0)) mem) : zR κ (d + 1) Y_BitStream_add 0 [some (.inr 3), some (.inl x)] [] mem Q := by
  refine w_BitStream_add_0 (s_Rp_isByte ⟨bI x, rfl, fun hb => h0 (fun q => absurd (hb.symm.trans q.1) (by decide)), fun hb => ⟨fun hl => ?_, fun hl => ?_⟩⟩)
  · rw [hn] at hl
    have hlt : n < 200 := (nI_ltI (by omega) (by omega)).mp (show nI n < nI 200 from hl)
    rw [hn, nI_clamp (by omega), nI_1]
    exact ⟨vp_in_nI hlt (by decide), h1 (bI_n0 hb) hlt⟩
  · rw [hn] at hl
    exact h0 (fun q => hl (show nI n < nI 200 from nI_lt q.2 (by decide)))
theorem s_Mo_append {n : Nat} {x : Int32} (hn : mem 68 2 = nI n) (h200 : n ≤ 200) (h1 : bI x = 1 → n < 200 → Q (some (.inl 1)) (zms (zms mem 70 n x) 68 2 (nI (n + 1)))) (h0 : ¬ (bI x = 1 ∧ n < 200) → Q (some (.inl 0)) mem) : zR κ (d + 1) Y_Mo_append 0 [some (.inr 68), some (.inl x)] [] mem Q := by
  refine w_Mo_append_0 (s_Mo_isByte ⟨bI x, rfl, fun hb => h0 (fun q => absurd (hb.symm.trans q.1) (by decide)), fun hb => ⟨fun hl => ?_, fun hl => ?_⟩⟩)
  · rw [hn] at hl
    have hlt : n < 200 := by
      rcases Nat.lt_or_ge n 200 with q | q
      · exact q
      · exact absurd (show nI n = nI 200 by rw [show n = 200 by omega]) hl
    rw [hn, nI_clamp (by omega), nI_1]
    exact ⟨vp_in_nI hlt (by decide), h1 (bI_n0 hb) hlt⟩
  · rw [hn] at hl
    exact h0 (fun q => by
      have := (nI_eq (a := n) (b := 200) (by omega) (by decide)).mp hl
      omega)
theorem op_append {x : Int32} (hI : zInv mem) : zR κ (d + 2) Y_Rp_append 0 [some (.inr 0), some (.inl x)] [] mem (fun r m1 => ∃ y1 : Int32, r = some (.inl y1) ∧ zR κ (d + 2) Y_Mo_append 0 [some (.inr 68), some (.inl x)] [] m1 (fun r m2 => ∃ y2 : Int32, r = some (.inl y2) ∧ y1 = y2 ∧ zInv m2)) := by
  obtain ⟨n, sz, hn, hs, e1, e2, e3, e4, hT, hB, hB2, hC, hK⟩ := hI
  refine w_Rp_append_0 (s_BS_add e3 hs (fun hb hl => ⟨1, rfl, Or.inr rfl, 1, rfl, ?_⟩) (fun hb => ⟨0, rfl, Or.inl rfl, 0, rfl, ?_⟩))
  · refine s_Mo_append (n := sz) (by simp [zms, zmr, upd, e4]) hs (fun _ _ => ⟨1, rfl, rfl, n, sz + 1, ?_⟩) (fun q => absurd ⟨hb, hl⟩ q)
    refine ⟨hn, by omega, by simpa [zms, zmr, upd] using e1, by simpa [zms, zmr, upd] using e2, by simp [zms, zmr, upd], by simp [zms, zmr, upd], fun i hi => by simpa [zms, zmr, upd] using hT i hi, fun i hi => ?_, fun i hi => ?_, fun k hk => ?_, zKeep_of (fun q h1 h2 => ?_) hK⟩
    · by_cases hin : i = sz
      · subst hin
        simp [zms, zmr, upd]
      · simpa [zms, zmr, upd, hin] using hB i (by omega)
    · by_cases hin : i = sz
      · subst hin
        have := bI_B hb
        simpa [zms, zmr, upd] using this
      · simpa [zms, zmr, upd, hin] using hB2 i hi
    · have h5 := hC k hk
      have hk0 : ¬ 4 + k = 2 := by omega
      simpa [zms, zmr, upd, hk0] using h5
    · have a1 : q ≠ 68 := by omega
      have a2 : q ≠ 70 := by omega
      have a3 : q ≠ 3 := by omega
      have a4 : q ≠ 4 := by omega
      rw [zms_ne a1, zms_ne a2, zms_ne a3, zms_ne a4]
  · exact s_Mo_append e4 hs (fun a b => absurd ⟨a, b⟩ hb) (fun _ => ⟨0, rfl, rfl, n, sz, hn, hs, e1, e2, e3, e4, hT, hB, hB2, hC, hK⟩)
theorem op_trim {x : Int32} (hI : zInv mem) : zR κ (d + 2) Y_Rp_trim 0 [some (.inr 0), some (.inl x)] [] mem (fun r m1 => ∃ y1 : Int32, r = some (.inl y1) ∧ zR κ (d + 2) Y_Mo_trim 0 [some (.inr 68), some (.inl x)] [] m1 (fun r m2 => ∃ y2 : Int32, r = some (.inl y2) ∧ y1 = y2 ∧ zInv m2)) := by
  have hI' := hI
  obtain ⟨n, sz, hn, hs, e1, e2, e3, e4, hT, hB, hB2, hC, hK⟩ := hI
  refine w_Rp_trim_0 (w_BitStream_keep_0 ⟨fun h0 => ⟨_, rfl, Or.inl rfl, _, rfl, w_Mo_trim_0 ⟨fun _ => ⟨_, rfl, rfl, hI'⟩, fun q => absurd h0 q⟩⟩, fun h0 => ⟨fun h1 => ?_, fun h1 => ⟨_, rfl, Or.inl rfl, _, rfl, w_Mo_trim_0 ⟨fun q => absurd q h0, fun _ => ⟨fun q => ?_, fun _ => ⟨_, rfl, rfl, hI'⟩⟩⟩⟩⟩⟩)
  · obtain ⟨j, hj, rfl⟩ := nI_of h0
    have hjn : j ≤ sz := by
      rw [e3] at h1
      exact (nI_leI hj (by omega)).mp h1
    refine ⟨_, rfl, Or.inr rfl, _, rfl, w_Mo_trim_0 ⟨fun q => absurd q h0, fun _ => ⟨fun _ => ⟨_, rfl, rfl, n, j, ?_⟩, fun q => ?_⟩⟩⟩
    · refine ⟨hn, by omega, by simpa [zms, zmr, upd] using e1, by simpa [zms, zmr, upd] using e2, by simp [zms, zmr, upd], by simp [zms, zmr, upd], fun i hi => by simpa [zms, zmr, upd] using hT i hi, fun i hi => by simpa [zms, zmr, upd] using hB i (by omega), fun i hi => by simpa [zms, zmr, upd] using hB2 i hi, fun k hk => ?_, zKeep_of (fun q h1 h2 => ?_) hK⟩
      · have h5 := hC k hk
        have hk0 : ¬ 4 + k = 2 := by omega
        simpa [zms, zmr, upd, hk0] using h5
      · have a1 : q ≠ 68 := by omega
        have a3 : q ≠ 3 := by omega
        rw [zms_ne a1, zms_ne a3]
    · have e5 : (zms mem 3 1 (nI j)) 68 2 = nI sz := by simpa [zms, zmr, upd] using e4
      rw [e5] at q
      exact absurd (nI_le hjn (by omega)) q
  · rw [e4, ← e3] at q
    exact absurd q h1
theorem op_poke {x z : Int32} (hI : zInv mem) : zR κ (d + 2) Y_Rp_poke 0 [some (.inr 0), some (.inl x), some (.inl z)] [] mem (fun r m1 => ∃ y1 : Int32, r = some (.inl y1) ∧ zR κ (d + 2) Y_Mo_poke 0 [some (.inr 68), some (.inl x), some (.inl z)] [] m1 (fun r m2 => ∃ y2 : Int32, r = some (.inl y2) ∧ y1 = y2 ∧ zInv m2)) := by
  have hI' := hI
  obtain ⟨n, sz, hn, hs, e1, e2, e3, e4, hT, hB, hB2, hC, hK⟩ := hI
  refine w_Rp_poke_0 (w_BitStream_change_0 ⟨fun h0 => ⟨_, rfl, Or.inl rfl, _, rfl, w_Mo_poke_0 ⟨fun _ => ⟨_, rfl, rfl, hI'⟩, fun q => absurd h0 q⟩⟩, fun h0 => ⟨fun h1 => ⟨_, rfl, Or.inl rfl, _, rfl, w_Mo_poke_0 ⟨fun q => absurd q h0, fun _ => ⟨fun _ => ⟨_, rfl, rfl, hI'⟩, fun q => ?_⟩⟩⟩, fun h1 => ?_⟩⟩)
  · rw [e4, ← e3] at q
    exact absurd h1 q
  · obtain ⟨j, hj, rfl⟩ := nI_of h0
    have hjn : j < sz := by
      rcases Nat.lt_or_ge j sz with q | q
      · exact q
      · rw [e3] at h1
        exact absurd (nI_le q hj) h1
    have hM1 : ∀ m' : zM, m' 68 2 = nI sz → ¬ m' 68 2 ≤ nI j := fun m' hm q => by
      rw [hm] at q
      exact absurd q (by rw [e3] at h1; exact h1)
    refine s_Rp_isByte ⟨_, rfl, fun hb => ⟨vp_in_nI (by omega) (by decide), _, rfl, Or.inr rfl, _, rfl, ?_⟩, fun hb => ⟨_, rfl, Or.inl rfl, _, rfl, ?_⟩⟩
    · rw [nI_clamp hj]
      have e5 : (zms mem 4 j z) 68 2 = nI sz := by simpa [zms, zmr, upd] using e4
      refine w_Mo_poke_0 ⟨fun q => absurd q h0, fun _ => ⟨fun q => absurd q (hM1 _ e5), fun _ => s_Mo_isByte ⟨_, rfl, fun _ => ⟨vp_in_nI (by omega) (by decide), _, rfl, rfl, n, sz, ?_⟩, fun q => absurd q hb⟩⟩⟩
      rw [nI_clamp hj]
      refine ⟨hn, hs, by simpa [zms, zmr, upd] using e1, by simpa [zms, zmr, upd] using e2, by simpa [zms, zmr, upd] using e3, by simpa [zms, zmr, upd] using e4, fun i hi => by simpa [zms, zmr, upd] using hT i hi, fun i hi => ?_, fun i hi => ?_, fun k hk => by simpa [zms, zmr, upd] using hC k hk, zKeep_of (fun q h1 h2 => ?_) hK⟩
      · by_cases hin : i = j
        · subst hin
          simp [zms, zmr, upd]
        · simpa [zms, zmr, upd, hin] using hB i hi
      · by_cases hin : i = j
        · subst hin
          have := bI_B (bI_n0 hb)
          simpa [zms, zmr, upd] using this
        · simpa [zms, zmr, upd, hin] using hB2 i hi
      · have a1 : q ≠ 70 := by omega
        have a3 : q ≠ 4 := by omega
        rw [zms_ne a1, zms_ne a3]
    · exact w_Mo_poke_0 ⟨fun q => absurd q h0, fun _ => ⟨fun q => absurd q (hM1 _ e4), fun _ => s_Mo_isByte ⟨_, rfl, fun q => absurd hb q, fun _ => ⟨_, rfl, rfl, hI'⟩⟩⟩⟩
end zSimple2
