theorem saF_t : ∀ j, j < 6 → saF j = nI j := by decide +kernel
theorem cl_n (a : Int32) : ∃ n : Nat, (1 ≤ n ∧ n ≤ 6) ∧ clC a = nI n ∧ clT a = nI n := by
  have h1 : ((1 : Int32) ≤ a) ↔ 1 ≤ a.toInt := by rw [Int32.le_iff_toInt_le]; exact Iff.rfl
  have h2 : (a ≤ (6 : Int32)) ↔ a.toInt ≤ 6 := by rw [Int32.le_iff_toInt_le]; exact Iff.rfl
  have h3 : (a < (6 : Int32)) ↔ a.toInt < 6 := by rw [Int32.lt_iff_toInt_lt]; exact Iff.rfl
  have h4 : ((1 : Int32) < a) ↔ 1 < a.toInt := by rw [Int32.lt_iff_toInt_lt]; exact Iff.rfl
  by_cases c1 : 1 ≤ a.toInt
  · by_cases c2 : a.toInt ≤ 6
    · have ea : a = nI a.toInt.toNat := by apply Int32.toInt_inj.mp; rw [nI_toInt (by omega)]; omega
      refine ⟨a.toInt.toNat, by omega, ?_, ?_⟩
      · rw [← ea]
        unfold clC
        by_cases c3 : a.toInt < 6
        · rw [if_pos (h3.mpr c3)]
          by_cases c4 : 1 < a.toInt
          · rw [if_pos (h4.mpr c4)]
          · rw [if_neg (mt h4.mp c4)]
            apply Int32.toInt_inj.mp
            show (1 : Int) = _
            omega
        · rw [if_neg (mt h3.mp c3), if_pos (by decide)]
          apply Int32.toInt_inj.mp
          show (6 : Int) = _
          omega
      · unfold clT
        rw [if_pos (h1.mpr c1), if_pos (h2.mpr c2)]
        exact ea
    · refine ⟨6, by omega, ?_, ?_⟩
      · unfold clC
        have c3 : ¬ a < (6 : Int32) := fun q => by have := h3.mp q; omega
        rw [if_neg c3, if_pos (by decide)]
        rfl
      · unfold clT
        rw [if_pos (h1.mpr c1), if_neg (mt h2.mp c2)]
        rfl
  · refine ⟨1, by omega, ?_, ?_⟩
    · unfold clC
      rw [if_pos (h3.mpr (by omega)), if_neg (fun q => by have := h4.mp q; omega)]
      rfl
    · unfold clT
      rw [if_neg (mt h1.mp c1)]
      rfl
theorem inv0 (a : Int32) : Inv (initC (clC a)) (clM (mdM (clT a))) := by
  obtain ⟨n, hn, e1, e2⟩ := cl_n a
  rw [e1, e2]
  obtain ⟨Mt, et, t0, t1, t2, t3, t4, t5, t6⟩ := e_mdClear (M := mdM (nI n))
  have ec : clM (mdM (nI n)) = Mt := by unfold clM; rw [et]
  rw [ec]
  refine ⟨n, 0, 0, 0, Mt.1, WF0 (by rw [t1]; rfl) t2 t3 t4 hn t5 (fun j h1 h2 => by rw [t6 j h1]; show -100 ≤ (0 : Int32).toInt ∧ (0 : Int32).toInt ≤ 100; decide), RC0 ?_ t5 (fun j hj => ⟨rfl, rfl, saF_t j hj, rfl⟩), RTself⟩
  rw [t1, t2, t3, t4]
  exact ⟨rfl, rfl, rfl, rfl, rfl, rfl⟩
