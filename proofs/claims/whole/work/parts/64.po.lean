/-- which row a call means: r = row + 1 -/
theorem row_iff {a : Int32} {B : Nat} (hB : B ≤ 5) : (¬ a < -1 ∧ ¬ nI B ≤ a ↔ -1 ≤ a.toInt ∧ a.toInt < B) ∧ (¬ a < -1 ∧ ¬ nI B - 1 < a ↔ -1 ≤ a.toInt ∧ a.toInt < B) := by
  have h1 : (a < -1) ↔ a.toInt < -1 := by rw [Int32.lt_iff_toInt_lt]; exact Iff.rfl
  have h2 : (nI B ≤ a) ↔ (B : Int) ≤ a.toInt := by rw [Int32.le_iff_toInt_le, nI_toInt (by omega)]
  have h3 : (nI B - 1 < a) ↔ (B : Int) - 1 < a.toInt := by
    have : (nI B - 1).toInt = (B : Int) - 1 := by
      have e : nI B - 1 = Int32.ofInt ((B : Int) - 1) := by rw [Int32.ofInt_sub]; rfl
      rw [e]; exact Int32.toInt_ofInt_of_le (by omega) (by omega)
    rw [Int32.lt_iff_toInt_lt, this]
  rw [h1, h2, h3]
  omega
theorem row_r {a : Int32} {B : Nat} (hB : B ≤ 5) (h : -1 ≤ a.toInt ∧ a.toInt < B) : ∃ r : Nat, a + 1 = nI r ∧ r ≤ B ∧ ((r = 0 ∧ a = -1) ∨ (0 < r ∧ a = nI (r - 1))) := by
  refine ⟨(a.toInt + 1).toNat, ?_, by omega, ?_⟩
  · apply Int32.toInt_inj.mp
    rw [nI_toInt (by omega)]
    have e : a + 1 = Int32.ofInt (a.toInt + 1) := by rw [Int32.ofInt_add, Int32.ofInt_toInt]; rfl
    rw [e, Int32.toInt_ofInt_of_le (by omega) (by omega)]
    omega
  · by_cases e : a.toInt = -1
    · exact Or.inl ⟨by omega, by apply Int32.toInt_inj.mp; rw [e]; decide⟩
    · exact Or.inr ⟨by omega, by apply Int32.toInt_inj.mp; rw [nI_toInt (by omega)]; omega⟩
theorem g_item : Gd_item Inv := by
  intro M1 M2 ⟨n, N, R, B, V, W, C, T⟩ a1 a2 a3
  have hb := W.2.1
  have T1 : RT V (wF M2 0 0 0) := T.sF (Or.inl rfl)
  have hc : M1.1 9 2 = nI B := C.1.2.2.2.2.2.trans W.1.2.2.2
  have ht : (wF M2 0 0 0).1 0 13 = nI B := T1.2.2.2.2.trans W.1.2.2.2
  obtain ⟨i1, i2⟩ := row_iff (a := a1) hb.2.2.2.2
  have wc : ∀ M : Mem, p_ES_isWithin a3 100 M = some (if isW a3 100 = true then 1 else 0) := fun M => e_within (b := 100) (by omega)
  have wm : ∀ M : Mem, p_Md_in a3 (-100) 100 M = some (if isW a3 100 = true then 1 else 0) := fun M => e_inW (b := 100) (by omega) (by decide)
  have bad : ∀ r : Int32, p_ES_item a1 a2 a3 M1 = some (r, M1) → p_Md_item a1 a2 a3 M2 = some (r, wF M2 0 0 0) → ∃ (r : Int32) (N1 N2 : Mem), p_ES_item a1 a2 a3 M1 = some (r, N1) ∧ p_Md_item a1 a2 a3 M2 = some (r, N2) ∧ Inv N1 N2 := fun r h1 h2 => ⟨r, _, _, h1, h2, n, N, R, B, V, W, C, T1⟩
  by_cases ok : -1 ≤ a1.toInt ∧ a1.toInt < B
  · have o1 := i1.mpr ok
    have eh : p_Rw_has a1 M1 = some 1 := by unfold p_Rw_has; rw [if_neg o1.1, hc, if_neg o1.2]
    have em : p_Md_in a1 (-1) ((wF M2 0 0 0).1 0 13 - 1) (wF M2 0 0 0) = some 1 := by rw [ht, e_in, if_pos (i2.mpr ok)]
    by_cases ca : inb a2 n = true
    · by_cases cm : isW a3 100 = true
      · have hv : -100 ≤ a3.toInt ∧ a3.toInt ≤ 100 := by
          unfold isW at cm
          simpa using cm
        obtain ⟨f1, f2⟩ := inb_eq ca
        generalize a2.toNatClampNeg = c at f1 f2
        subst f1
        have i6 := inb_mono ca hb.2.1
        obtain ⟨r, r1, r2, r3⟩ := row_r hb.2.2.2.2 ok
        have ix : (6 : Int32) * (a1 + 1) + nI c = nI (6 * r + c) := by rw [r1, idx6]
        have hi : inb (nI (6 * r + c)) 36 = true := inb_nI (by omega) (by omega)
        obtain ⟨k, k1, k2, k3⟩ : ∃ k, p_Rw_at a1 M1 = some k ∧ alenC k = 6 ∧ k = if r = 0 then 10 else 12 + (r - 1) := by
          rcases r3 with ⟨e1, e2⟩ | ⟨e1, e2⟩
          · exact ⟨10, by rw [e2]; exact e_at0, rfl, by rw [if_pos e1]⟩
          · exact ⟨12 + (r - 1), by rw [e2]; exact e_at (by omega), al12 (by omega), by rw [if_neg (by omega)]⟩
        have kk : k = 10 ∨ (12 ≤ k ∧ k ≤ 16) := by rw [k3]; split <;> omega
        refine ⟨1, wI M1 k (nI c) a3, wI (wF M2 0 0 0) 10 (nI (6 * r + c)) a3, ?_, ?_, n, N, R, B, vset V 10 (6 * r + c) a3, ?_, ?_, T1.set (by omega) (by omega) (by omega)⟩
        · unfold p_ES_item
          rw [bnd_e eh, if_neg one_ne, bnd_e (e_isCol W C), if_pos ca, if_neg one_ne, bnd_e (wc _), if_pos cm, if_neg one_ne, bnd_e k1, chk_t (by rw [k2]; exact i6), nm_s]
        · unfold p_Md_item
          rw [nm_s, bnd_e em, if_neg one_ne, bnd_e (e_mdCol W T1), if_pos ca, if_neg one_ne, bnd_e (wm _), if_pos cm, if_neg one_ne, ix, chk_t hi, nm_s]
        · refine ⟨W.1, W.2.1, W.2.2.1, W.2.2.2.1, W.2.2.2.2.1, fun q hq => ?_, W.2.2.2.2.2.2.1, W.2.2.2.2.2.2.2⟩
          rw [vset_at]
          split
          · exact hv
          · exact W.2.2.2.2.2.1 q hq
        · refine ⟨?_, fun j hj => ?_, ?_, ?_, fun q hq => ?_, fun s hs q hq => ?_, ?_, ?_⟩
          · rw [wI_ne (by omega), wI_ne (by omega), wI_ne (by omega), wI_ne (by omega), wI_ne (by omega), vset_ne (by omega)]; exact C.1
          · rw [wI_ne (by omega), wI_ne (by omega), wI_ne (by omega), wI_ne (by omega), vset_ne (by omega), vset_ne (by omega), vset_ne (by omega), vset_ne (by omega), vset_ne (by omega)]; exact C.2.1 j hj
          · rw [wI_ne (by omega), vset_ne (by omega)]; exact C.2.2.1
          · rw [wI_ne (by omega), vset_ne (by omega)]; exact C.2.2.2.1
          · rw [vset_at]
            by_cases e : k = 10
            · have er : r = 0 := Decidable.byContradiction fun h => by rw [if_neg h] at k3; omega
              rw [e, wI_at (by omega), er, C.2.2.2.2.1 q hq]
              simp
            · have er : ¬ r = 0 := fun h => by rw [if_pos h] at k3; omega
              rw [wI_ne (fun h => e h.symm), if_neg (by omega)]; exact C.2.2.2.2.1 q hq
          · rw [vset_at]
            by_cases e : 12 + s = k
            · have er : r = s + 1 := by
                by_cases h : r = 0
                · rw [if_pos h] at k3; omega
                · rw [if_neg h] at k3; omega
              rw [e, wI_at (by omega), ← e, er, C.2.2.2.2.2.1 s hs q hq]
              by_cases h : q = c
              · rw [if_pos h, if_pos (by omega)]
              · rw [if_neg h, if_neg (by omega)]
            · have er : ¬ r = s + 1 := fun h => by rw [if_neg (by omega)] at k3; omega
              rw [wI_ne e, if_neg (by omega)]; exact C.2.2.2.2.2.1 s hs q hq
          · rw [wI_ne (by omega), vset_ne (by omega)]; exact C.2.2.2.2.2.2.1
          · rw [wI_ne (by omega), vset_ne (by omega)]; exact C.2.2.2.2.2.2.2
      · refine bad (-2) ?_ ?_
        · unfold p_ES_item; rw [bnd_e eh, if_neg one_ne, bnd_e (e_isCol W C), if_pos ca, if_neg one_ne, bnd_e (wc _), if_neg cm, if_pos rfl]
        · unfold p_Md_item; rw [nm_s, bnd_e em, if_neg one_ne, bnd_e (e_mdCol W T1), if_pos ca, if_neg one_ne, bnd_e (wm _), if_neg cm, if_pos rfl]
    · refine bad (-1) ?_ ?_
      · unfold p_ES_item; rw [bnd_e eh, if_neg one_ne, bnd_e (e_isCol W C), if_neg ca, if_pos rfl]
      · unfold p_Md_item; rw [nm_s, bnd_e em, if_neg one_ne, bnd_e (e_mdCol W T1), if_neg ca, if_pos rfl]
  · refine bad (-1) ?_ ?_
    · unfold p_ES_item p_Rw_has
      by_cases n1 : a1 < -1
      · rw [if_pos n1, bnd_s, if_pos rfl]
      · rw [if_neg n1, hc, if_pos (Decidable.byContradiction fun q => ok (i1.mp ⟨n1, q⟩)), bnd_s, if_pos rfl]
    · unfold p_Md_item
      rw [nm_s, ht, e_in, if_neg (fun q => ok (i2.mp q)), bnd_s, if_pos rfl]
