/-- the reference, cleared -/
theorem e_mdClear {M : Mem} : ∃ M', p_Md_clear M = some (M.1 0 2, M') ∧ M'.1 0 0 = 0 ∧ M'.1 0 1 = M.1 0 1 ∧ M'.1 0 2 = 0 ∧ M'.1 0 8 = 0 ∧ M'.1 0 13 = 0 ∧ (∀ j, j < 6 → M'.1 7 j = 0 ∧ M'.1 8 j = nI j ∧ M'.1 9 j = 0 ∧ M'.1 10 j = 0) ∧ ∀ j, 6 ≤ j → M'.1 10 j = M.1 10 j := by
  have hq : ∃ q : Int32 × Mem, itr zfu (fun s => p_Md_clear_L27 s.1 s.2) ((0 : Int32), wF (wF (wF (wF M 0 0 0) 0 2 0) 0 8 0) 0 13 0) = some q ∧ (q.2.1 0 = (wF (wF (wF (wF M 0 0 0) 0 2 0) 0 8 0) 0 13 0).1 0 ∧ (∀ j, j < 6 → q.2.1 7 j = 0 ∧ q.2.1 8 j = nI j ∧ q.2.1 9 j = 0 ∧ q.2.1 10 j = 0) ∧ ∀ j, 6 ≤ j → q.2.1 10 j = M.1 10 j) := by
    refine itr_run (σ := Int32 × Mem) (ρ := Int32 × Mem) (fun i s => s.1 = nI i ∧ i ≤ 6 ∧ s.2.1 0 = (wF (wF (wF (wF M 0 0 0) 0 2 0) 0 8 0) 0 13 0).1 0 ∧ (∀ j, j < i → s.2.1 7 j = 0 ∧ s.2.1 8 j = nI j ∧ s.2.1 9 j = 0 ∧ s.2.1 10 j = 0) ∧ ∀ j, 6 ≤ j → s.2.1 10 j = M.1 10 j) (fun q => q.2.1 0 = (wF (wF (wF (wF M 0 0 0) 0 2 0) 0 8 0) 0 13 0).1 0 ∧ (∀ j, j < 6 → q.2.1 7 j = 0 ∧ q.2.1 8 j = nI j ∧ q.2.1 9 j = 0 ∧ q.2.1 10 j = 0) ∧ ∀ j, 6 ≤ j → q.2.1 10 j = M.1 10 j) 6 (zfu_gt (by omega)) ⟨rfl, by omega, rfl, fun j h => by omega, fun j _ => ?_⟩ (fun i s hi hp => ?_) (fun s hp => ?_)
    · dsimp only
      rw [wF_ne (by omega), wF_ne (by omega), wF_ne (by omega), wF_ne (by omega)]
    · obtain ⟨x, M'⟩ := s
      obtain ⟨rfl, hl, h0, h1, h2⟩ := hp
      dsimp only at h0 h1 h2
      have k1 : ¬ (6 : Int32) ≤ nI i := nI_ge (b := 6) (by omega) (by omega)
      have k2 : inb (nI i) 6 = true := inb_nI (by omega) (by omega)
      have k3 : inb (nI i) 36 = true := inb_nI (by omega) (by omega)
      have nb : vp_nar .boolean (0 : Int32) = 0 := by decide
      refine ⟨.inl (nI (i + 1), wI (wI (wI (wI M' 7 (nI i) 0) 10 (nI i) 0) 8 (nI i) (nI i)) 9 (nI i) 0), ?_, rfl, by omega, ?_, fun j hj => ?_, fun j hj => ?_⟩
      · simp only [p_Md_clear_L27, k1, k2, k3, chk_true, nm_s, nb, nI_1, ↓reduceIte]
      · dsimp only
        rw [wI_ne (by omega), wI_ne (by omega), wI_ne (by omega), wI_ne (by omega)]; exact h0
      · dsimp only
        rw [wI_ne (by omega : 7 ≠ 9), wI_ne (by omega : 7 ≠ 8), wI_ne (by omega : 7 ≠ 10), wI_at (by omega), wI_ne (by omega : 8 ≠ 9), wI_at (by omega), wI_ne (by omega : 8 ≠ 10), wI_ne (by omega : 8 ≠ 7), wI_at (by omega), wI_ne (by omega : 9 ≠ 8), wI_ne (by omega : 9 ≠ 10), wI_ne (by omega : 9 ≠ 7), wI_ne (by omega : 10 ≠ 9), wI_ne (by omega : 10 ≠ 8), wI_at (by omega), wI_ne (by omega : 10 ≠ 7)]
        by_cases e : j = i
        · rw [if_pos e, if_pos e, if_pos e, if_pos e, e]; exact ⟨rfl, rfl, rfl, rfl⟩
        · rw [if_neg e, if_neg e, if_neg e, if_neg e]; exact h1 j (by omega)
      · dsimp only
        rw [wI_ne (by omega : 10 ≠ 9), wI_ne (by omega : 10 ≠ 8), wI_at (by omega), if_neg (by omega), wI_ne (by omega : 10 ≠ 7)]; exact h2 j hj
    · obtain ⟨x, M'⟩ := s
      obtain ⟨rfl, hl, h0, h1, h2⟩ := hp
      exact ⟨(nI 6, M'), by simp only [p_Md_clear_L27, show (6 : Int32) ≤ nI 6 by decide, ↓reduceIte], h0, h1, h2⟩
  obtain ⟨q, q1, q0, q2, q3⟩ := hq
  refine ⟨q.2, ?_, ?_, ?_, ?_, ?_, ?_, q2, q3⟩
  · unfold p_Md_clear
    rw [nm_s, nm_s, nm_s, nm_s, bnd_e q1, wF_o (by omega)]
  · rw [q0, wF_o (by omega), wF_o (by omega), wF_o (by omega), wF_at]
  · rw [q0, wF_o (by omega), wF_o (by omega), wF_o (by omega), wF_o (by omega)]
  · rw [q0, wF_o (by omega), wF_o (by omega), wF_at]
  · rw [q0, wF_o (by omega), wF_at]
  · rw [q0, wF_at]
