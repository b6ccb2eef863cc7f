theorem g_answer : Gd_answer Inv := by
  intro M1 M2 ⟨n, N, R, B, V, W, C, T⟩ a1
  have hb := W.2.1
  have T1 : RT V (wF M2 0 0 0) := T.sF (Or.inl rfl)
  have hc : M1.1 9 2 = nI B := C.1.2.2.2.2.2.trans W.1.2.2.2
  have ht : (wF M2 0 0 0).1 0 13 = nI B := T1.2.2.2.2.trans W.1.2.2.2
  have h1 : (a1 < -1) ↔ a1.toInt < -1 := by rw [Int32.lt_iff_toInt_lt]; exact Iff.rfl
  have h2 : (nI B ≤ a1) ↔ (B : Int) ≤ a1.toInt := by rw [Int32.le_iff_toInt_le, nI_toInt (by omega)]
  have h3 : (nI B - 1 < a1) ↔ (B : Int) - 1 < a1.toInt := by
    have : (nI B - 1).toInt = (B : Int) - 1 := by
      have e : nI B - 1 = Int32.ofInt ((B : Int) - 1) := by rw [Int32.ofInt_sub]; rfl
      rw [e]; exact Int32.toInt_ofInt_of_le (by omega) (by omega)
    rw [Int32.lt_iff_toInt_lt, this]
  by_cases ok : -1 ≤ a1.toInt ∧ a1.toInt < B
  · have n1 : ¬ a1 < -1 := fun q => by have := h1.mp q; omega
    have n2 : ¬ nI B ≤ a1 := fun q => by have := h2.mp q; omega
    have n3 : ¬ nI B - 1 < a1 := fun q => by have := h3.mp q; omega
    have em : p_Md_in a1 (-1) ((wF M2 0 0 0).1 0 13 - 1) (wF M2 0 0 0) = some 1 := by rw [ht, e_in, if_pos ⟨n1, n3⟩]
    obtain ⟨r, hr⟩ : ∃ r : Nat, a1 + 1 = nI r ∧ r ≤ B ∧ a1.toInt + 1 = r := by
      refine ⟨(a1.toInt + 1).toNat, ?_, by omega, by omega⟩
      apply Int32.toInt_inj.mp
      rw [nI_toInt (by omega)]
      have e : a1 + 1 = Int32.ofInt (a1.toInt + 1) := by rw [Int32.ofInt_add, Int32.ofInt_toInt]; rfl
      rw [e, Int32.toInt_ofInt_of_le (by omega) (by omega)]
      omega
    obtain ⟨hr1, hr2, hr3⟩ := hr
    obtain ⟨M4, e4, x4, c4⟩ := e_take W T1 (r := r) (by omega)
    have T4 := T1.n x4
    have e5 := e_answerNow (row := itm V r) W T4 c4 (fun q hq => itm_bd W (by omega) q (by omega))
    have bd := ans_bound (row := itm V r) W (itm_bd W (by omega))
    have ea : ∃ k, p_Rw_at a1 M1 = some k ∧ alenC k = 6 ∧ ∀ c, c < 6 → M1.1 k c = itm V r c := by
      by_cases e : a1.toInt = -1
      · have e' : a1 = -1 := by apply Int32.toInt_inj.mp; rw [e]; decide
        have er : r = 0 := by omega
        exact ⟨10, by rw [e']; exact e_at0, rfl, by rw [er]; exact row0 C⟩
      · have e' : a1 = nI (r - 1) := by apply Int32.toInt_inj.mp; rw [nI_toInt (by omega)]; omega
        refine ⟨12 + (r - 1), by rw [e']; exact e_at (by omega), al12 (by omega), fun c hc => ?_⟩
        rw [rowC C (r := r - 1) (by omega) c hc, show r - 1 + 1 = r by omega]
    obtain ⟨k, k1, k2, k3⟩ := ea
    refine ⟨Int64.ofInt (ans R V (itm V r)), M4, ?_, ?_, n, N, R, B, V, W, C, T4⟩
    · unfold p_ES_answer p_Rw_has
      rw [if_neg n1, hc, if_neg n2, bnd_s, if_neg one_ne, bnd_e k1, bnd_e (e_sumFor (row := itm V r) W C k3 k2), toL_of (by omega) (by omega)]
    · unfold p_Md_answer
      rw [nm_s, bnd_e em, if_neg one_ne, hr1, bnd_e e4, bnd_e e5]
  · refine ⟨-1000000000000, wF M2 0 0 0, ?_, ?_, n, N, R, B, V, W, C, T1⟩
    · unfold p_ES_answer p_Rw_has
      by_cases n1 : a1 < -1
      · rw [if_pos n1, bnd_s, if_pos rfl]
      · rw [if_neg n1, hc, if_pos (by rw [h2]; have := mt h1.mpr n1; omega), bnd_s, if_pos rfl]
    · unfold p_Md_answer
      rw [nm_s, ht, e_in, if_neg (fun q => ok ⟨by have := mt h1.mpr q.1; omega, by have := mt h3.mpr q.2; omega⟩), bnd_s, if_pos rfl]
