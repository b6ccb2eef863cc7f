section PS
variable {n N R B : Nat} {V : Vw} {M : Mem}
theorem ofL_addI (a : Int) (x : Int32) : Int64.ofInt a + x.toInt64 = Int64.ofInt (a + x.toInt) := by rw [toL_in, Int64.ofInt_add]
theorem an_loop {row : Nat → Int32} (W : WF n N R B V) (T : RT V M) (hrow : ∀ c, c < n → M.1 11 c = row c) :
    ∀ f j fu, j < N → j < f → j < fu → itr fu (fun s => p_Md_answerNow_L20 M s) (nI j) = some (nI (lfN V row f j)) := by
  intro f
  induction f with
  | zero => intro j fu _ h; omega
  | succ f ih =>
    intro j fu hN hf hfu
    obtain ⟨fu, rfl⟩ : ∃ m, fu = m + 1 := ⟨fu - 1, by omega⟩
    have hb := W.2.1
    have k2 : inb (nI j) 30 = true := inb_nI (by omega) (by omega)
    obtain ⟨-, h⟩ := W.2.2.1 j hN
    have ej : (nI j).toNatClampNeg = j := nI_clamp (by omega)
    have t1 : M.1 1 = V 1 := T.1 1 (by omega) (by omega)
    have t2 : M.1 2 = V 2 := T.1 2 (by omega) (by omega)
    have t3 : M.1 3 = V 3 := T.1 3 (by omega) (by omega)
    have t4 : M.1 4 = V 4 := T.1 4 (by omega) (by omega)
    have t5 : M.1 5 = V 5 := T.1 5 (by omega) (by omega)
    rcases h with h | ⟨h0, h1, h2, h3⟩
    · have hne : ¬ V 1 j = 0 := by rw [h]; decide
      have hL : lfN V row (f + 1) j = j := by rw [lfN, if_neg hne]
      rw [hL]
      simp only [itr, p_Md_answerNow_L20, k2, chk_true, ej, t1, hne, ↓reduceIte]
    · obtain ⟨f1, f2⟩ := inb_eq h1
      obtain ⟨g1, g2⟩ := inb_eq h2
      obtain ⟨d1, d2⟩ := inb_eq h3
      have k3 : inb (V 3 j) 6 = true := inb_mono h1 (by omega)
      have hL : lfN V row (f + 1) j = if V 2 j < row (V 3 j).toNatClampNeg then lfN V row f (V 5 j).toNatClampNeg else lfN V row f (V 4 j).toNatClampNeg := by simp only [lfN, h0, ↓reduceIte]
      rw [hL]
      by_cases cc : V 2 j < row (V 3 j).toNatClampNeg
      · have hx := ih (V 5 j).toNatClampNeg fu (by omega) (by omega) (by omega)
        have st : p_Md_answerNow_L20 M (nI j) = some (.inl (nI (V 5 j).toNatClampNeg)) := by
          rw [← d1]
          simp only [p_Md_answerNow_L20, k2, chk_true, ej, t1, t2, t3, t5, h0, k3, hrow _ f2, cc, ↓reduceIte]
        rw [if_pos cc, itr]
        simp only [st]
        exact hx
      · have hx := ih (V 4 j).toNatClampNeg fu (by omega) (by omega) (by omega)
        have st : p_Md_answerNow_L20 M (nI j) = some (.inl (nI (V 4 j).toNatClampNeg)) := by
          rw [← g1]
          simp only [p_Md_answerNow_L20, k2, chk_true, ej, t1, t2, t3, t4, h0, k3, hrow _ f2, cc, ↓reduceIte]
        rw [if_neg cc, itr]
        simp only [st]
        exact hx
theorem e_answerNow {row : Nat → Int32} (W : WF n N R B V) (T : RT V M) (hrow : ∀ c, c < n → M.1 11 c = row c) (hbd : ∀ c, c < n → -100 ≤ (row c).toInt ∧ (row c).toInt ≤ 100) : p_Md_answerNow M = some (Int64.ofInt (ans R V row)) := by
  have hb := W.2.1
  have t2 : M.1 2 = V 2 := T.1 2 (by omega) (by omega)
  have t6 : M.1 6 = V 6 := T.1 6 (by omega) (by omega)
  have t7 : M.1 7 = V 7 := T.1 7 (by omega) (by omega)
  have h1 : itr zfu (fun s => p_Md_answerNow_L4 M s.1 s.2) ((0 : Int64), (0 : Int32)) = some (Int64.ofInt (sm (fun k => (V 2 (leafN V row (V 6 k).toNatClampNeg)).toInt) R), nI R) := by
    refine itr_st (fun i => (Int64.ofInt (sm (fun k => (V 2 (leafN V row (V 6 k).toNatClampNeg)).toInt) i), nI i)) R (zfu_gt (by omega)) (fun i hi => ?_) ?_
    · have k1 : ¬ M.1 0 8 ≤ nI i := by rw [T.2.2.2.1, W.1.2.2.1]; exact nI_ge (by omega) (by omega)
      obtain ⟨g1, g2⟩ := inb_eq (W.2.2.2.1 i hi)
      have k2 : inb (nI i) 4 = true := inb_nI (by omega) (by omega)
      have k3 : itr zfu (fun s => p_Md_answerNow_L20 M s) (V 6 i) = some (nI (leafN V row (V 6 i).toNatClampNeg)) := by
        have := an_loop (row := row) W T hrow 31 _ zfu g2 (by omega) (zfu_gt (by omega))
        rwa [← g1] at this
      have hlt := lf_lt (row := row) W 31 _ g2
      have hlt : leafN V row (V 6 i).toNatClampNeg < N := hlt
      have k4 : inb (nI (leafN V row (V 6 i).toNatClampNeg)) 30 = true := inb_nI (by omega) (by omega)
      simp only [p_Md_answerNow_L4, k1, k2, k4, chk_true, nI_clamp (show i < 2 ^ 31 by omega), nI_clamp (show leafN V row (V 6 i).toNatClampNeg < 2 ^ 31 by omega), t2, t6, k3, bnd_s, ofL_addI, nI_1, sm, ↓reduceIte]
    · have k1 : M.1 0 8 ≤ nI R := by rw [T.2.2.2.1, W.1.2.2.1]; exact nI_le (by omega) (by omega)
      simp only [p_Md_answerNow_L4, k1, ↓reduceIte]
  have h2 : itr zfu (fun s => p_Md_answerNow_L93 M s.1 s.2) (Int64.ofInt (sm (fun k => (V 2 (leafN V row (V 6 k).toNatClampNeg)).toInt) R), (0 : Int32)) = some (Int64.ofInt (ans R V row), nI n) := by
    generalize hA : sm (fun k => (V 2 (leafN V row (V 6 k).toNatClampNeg)).toInt) R = A
    have hh : ans R V row = A + sm (fun c => (V 7 c).toInt * (row c).toInt) n := by
      unfold ans
      rw [hA, sm_tail (a := n) hb.2.1 (fun i h1 h2 => ?_)]
      have h1 : (V 7 i).toInt = 0 := by rw [(W.2.2.2.2.1 i h2).2 h1]; decide
      simp only [h1, Int.zero_mul]
    rw [hh]
    have h9 := itr_st (f := fun s => p_Md_answerNow_L93 M s.1 s.2) (fun i => (Int64.ofInt (A + sm (fun c => (V 7 c).toInt * (row c).toInt) i), nI i)) n (r := (Int64.ofInt (A + sm (fun c => (V 7 c).toInt * (row c).toInt) n), nI n)) (n := zfu) (zfu_gt (by omega)) (fun i hi => ?_) ?_
    · rw [← h9]
      simp only [sm, Int.add_zero]
      rfl
    · have k1 : ¬ M.1 0 1 ≤ nI i := by rw [T.2.1, W.1.1]; exact nI_ge (by omega) (by omega)
      have k2 : inb (nI i) 6 = true := inb_nI (by omega) (by omega)
      have k3 := (mul_toI (W.2.2.2.2.1 i (by omega)).1 (hbd i hi) (by omega) (by omega)).1
      simp only [p_Md_answerNow_L93, k1, k2, chk_true, nI_clamp (show i < 2 ^ 31 by omega), t7, hrow i hi, nI_1, sm, ofL_addI, k3, Int.add_assoc, ↓reduceIte]
    · have k1 : M.1 0 1 ≤ nI n := by rw [T.2.1, W.1.1]; exact nI_le (by omega) (by omega)
      simp only [p_Md_answerNow_L93, k1, ↓reduceIte]
  unfold p_Md_answerNow
  rw [bnd_e h1, bnd_e h2]
/-! rows -/
def itm (V : Vw) (r : Nat) : Nat → Int32 := fun c => V 10 (6 * r + c)
theorem itm_bd (W : WF n N R B V) {r : Nat} (hr : r ≤ 5) : ∀ c, c < 6 → -100 ≤ (itm V r c).toInt ∧ (itm V r c).toInt ≤ 100 := fun c hc => W.2.2.2.2.2.1 _ (by omega)
theorem rowC {r : Nat} (C : RC N R B V M) (hr : r < B) : ∀ c, c < 6 → M.1 (12 + r) c = itm V (r + 1) c := fun c hc => C.2.2.2.2.2.1 r hr c hc
theorem row0 (C : RC N R B V M) : ∀ c, c < 6 → M.1 10 c = itm V 0 c := fun c hc => by rw [C.2.2.2.2.1 c hc]; simp [itm]
theorem al12 {r : Nat} (hr : r < 5) : alenC (12 + r) = 6 := by
  match r, hr with
  | 0, _ => rfl
  | 1, _ => rfl
  | 2, _ => rfl
  | 3, _ => rfl
  | 4, _ => rfl
theorem e_at {r : Nat} (hr : r < 5) : p_Rw_at (nI r) M = some (12 + r) := by
  have k1 : ¬ nI r < 0 := nI_pos (by omega)
  have k2 : ¬ (5 : Int32) ≤ nI r := nI_ge (b := 5) (by omega) (by omega)
  simp only [p_Rw_at, k1, k2, chk_t (inb_nI hr (by omega)), nI_clamp (show r < 2 ^ 31 by omega), ↓reduceIte]
theorem e_at0 : p_Rw_at (-1 : Int32) M = some 10 := rfl
end PS
