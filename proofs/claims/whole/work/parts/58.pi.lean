section PS
variable {n N R B : Nat} {V : Vw} {M : Mem}
theorem win_iff {a : Int32} {b : Nat} (hb : b < 1000000) : (¬ a < -(nI b) ∧ ¬ nI b < a) ↔ -(b : Int) ≤ a.toInt ∧ a.toInt ≤ b := by
  have h1 : (a < -(nI b)) ↔ a.toInt < -(b : Int) := by
    rw [Int32.lt_iff_toInt_lt]
    have : (-(nI b)).toInt = -(b : Int) := by
      have e : -(nI b) = Int32.ofInt (-(b : Int)) := by rw [Int32.ofInt_neg]; rfl
      rw [e]; exact Int32.toInt_ofInt_of_le (by omega) (by omega)
    rw [this]
  have h2 : (nI b < a) ↔ (b : Int) < a.toInt := by rw [Int32.lt_iff_toInt_lt, nI_toInt (by omega)]
  rw [h1, h2]
  omega
def isW (a : Int32) (b : Nat) : Bool := decide (-(b : Int) ≤ a.toInt ∧ a.toInt ≤ b)
theorem e_within {a : Int32} {b : Nat} (hb : b < 1000000) : p_ES_isWithin a (nI b) M = some (if isW a b = true then 1 else 0) := by
  have h := win_iff (a := a) hb
  unfold p_ES_isWithin isW
  simp only [decide_eq_true_eq]
  by_cases c1 : a < -(nI b)
  · rw [if_pos c1, if_neg (fun q => (h.mpr q).1 c1)]
  · by_cases c2 : nI b < a
    · rw [if_neg c1, if_pos c2, if_neg (fun q => (h.mpr q).2 c2)]
    · rw [if_neg c1, if_neg c2, if_pos (h.mp ⟨c1, c2⟩)]
theorem e_inW {a : Int32} {b : Nat} {l : Int32} (hb : b < 1000000) (hl : l = -(nI b)) : p_Md_in a l (nI b) M = some (if isW a b = true then 1 else 0) := by
  rw [e_in, hl]
  have h := win_iff (a := a) hb
  unfold isW
  simp only [decide_eq_true_eq]
  by_cases c : -(b : Int) ≤ a.toInt ∧ a.toInt ≤ b
  · rw [if_pos c, if_pos (h.mpr c)]
  · rw [if_neg c, if_neg (mt h.mp c)]
end PS
theorem g_partial : Gd_partial Inv := by
  intro M1 M2 ⟨n, N, R, B, V, W, C, T⟩ a1 a2 a3
  have hb := W.2.1
  have T1 : RT V (wF M2 0 0 0) := T.sF (Or.inl rfl)
  have z1 : (wF M2 0 0 0).1 0 0 = 0 := wF_at
  have wc : ∀ M : Mem, p_ES_isWithin a2 100 M = some (if isW a2 100 = true then 1 else 0) := fun M => e_within (b := 100) (by omega)
  have wm : ∀ M : Mem, p_Md_in a2 (-100) 100 M = some (if isW a2 100 = true then 1 else 0) := fun M => e_inW (b := 100) (by omega) (by decide)
  have bad : (p_ES_partial a1 a2 a3 M1 = some (some (-1000000000000), M1) ∧ p_Md_partial a1 a2 a3 M2 = some (-1000000000000, wF M2 0 0 0)) ∨ (inb a1 n = true ∧ isW a2 100 = true ∧ isP a3 = true) := by
    by_cases ca : inb a1 n = true
    · by_cases cp : isP a3 = true
      · by_cases cm : isW a2 100 = true
        · exact Or.inr ⟨ca, cm, cp⟩
        · left; refine ⟨?_, ?_⟩
          · unfold p_ES_partial; rw [bnd_e (e_isCol W C), if_pos ca, if_neg one_ne, bnd_e e_isPart, if_pos cp, if_neg one_ne, bnd_e (wc _), if_neg cm, if_pos rfl]
          · unfold p_Md_partial; rw [nm_s, bnd_e (e_mdCol W T1), if_pos ca, if_neg one_ne, bnd_e (wm _), if_neg cm, if_pos rfl]
      · left; refine ⟨?_, ?_⟩
        · unfold p_ES_partial; rw [bnd_e (e_isCol W C), if_pos ca, if_neg one_ne, bnd_e e_isPart, if_neg cp, if_pos rfl]
        · unfold p_Md_partial; rw [nm_s, bnd_e (e_mdCol W T1), if_pos ca, if_neg one_ne, bnd_e (wm _)]
          by_cases cm : isW a2 100 = true
          · rw [if_pos cm, if_neg one_ne, bnd_e e_inP, if_neg cp, if_pos rfl]
          · rw [if_neg cm, if_pos rfl]
    · left; refine ⟨?_, ?_⟩
      · unfold p_ES_partial; rw [bnd_e (e_isCol W C), if_neg ca, if_pos rfl]
      · unfold p_Md_partial; rw [nm_s, bnd_e (e_mdCol W T1), if_neg ca, if_pos rfl]
  rcases bad with ⟨b1, b2⟩ | ⟨ca, cm, cp⟩
  · exact Or.inl ⟨_, _, _, b1, b2, z1, n, N, R, B, V, W, C, T1⟩
  obtain ⟨f1, f2⟩ := inb_eq ca
  have hv : -100 ≤ a2.toInt ∧ a2.toInt ≤ 100 := by
    unfold isW at cm
    simpa using cm
  generalize a1.toNatClampNeg = c at f1 f2
  obtain ⟨Mc, ec, xc⟩ := e_replaced W C (c := c) (v := a2) (by omega) hv
  have Cc := C.x hb.2.2.2.2 xc
  have hcnt : Mc.1 9 2 = nI B := Cc.1.2.2.2.2.2.trans W.1.2.2.2
  obtain ⟨M3, e3, T3, z3, k3, k3'⟩ := e_thr W T1
  have eB : Int32.toInt64 (nI B) = Int64.ofInt (B : Int) := toL_nI (by omega)
  have pre : p_ES_partial a1 a2 a3 M1 = bnd (p_ES_told (Int64.ofInt (sm (fun r => ans R V (setr V (r + 1) c a2)) B)) (Int64.ofInt (B : Int)) a3 Mc) (fun q11 => match q11 with
          | none => some (none, Mc)
          | some q11v => some (some q11v, Mc)) := by
    unfold p_ES_partial
    rw [bnd_e (e_isCol W C), if_pos ca, if_neg one_ne, bnd_e e_isPart, if_pos cp, if_neg one_ne, bnd_e (wc _), if_pos cm, if_neg one_ne, f1, bnd_e ec]
    simp only [p_Rw_count, bnd_s, hcnt, eB]
    generalize p_ES_told _ _ _ _ = z
    cases z with
    | none => rfl
    | some y => cases y <;> rfl
  by_cases c0 : B = 0
  · right
    rw [if_pos c0] at e3 z3
    refine ⟨0, Mc, M3, ?_, ?_, z3, n, N, R, B, V, W, Cc, T3⟩
    · rw [pre]
      have : Int64.ofInt (B : Int) = 0 := by rw [c0]; decide
      rw [this, bnd_e told_none]
    · unfold p_Md_partial
      rw [nm_s, bnd_e (e_mdCol W T1), if_pos ca, if_neg one_ne, bnd_e (wm _), if_pos cm, if_neg one_ne, bnd_e e_inP, if_pos cp, if_neg one_ne, bnd_e e3, if_neg one_ne]
  · left
    rw [if_neg c0] at e3 z3
    obtain ⟨q, e6, q1, x6⟩ := e_mdPartial W T3 (c := c) (v := a2) f2 hv
    have T6 := T3.n x6
    have sb := sm_bound (f := fun r => ans R V (setr V (r + 1) c a2)) (C := 16000) (k := B) (fun r hr => ans_bound W (setr_bd W (by omega) hv))
    obtain ⟨v, v1, v2⟩ := told_part (a := sm (fun r => ans R V (setr V (r + 1) c a2)) B) (b := B) (pt := a3) (M := Mc) (M' := q.2.2) (by omega) (by omega) (by omega) (by omega)
    refine ⟨v, Mc, q.2.2, ?_, ?_, ?_, n, N, R, B, V, W, Cc, T6⟩
    · rw [pre, bnd_e v1]
    · unfold p_Md_partial
      rw [nm_s, bnd_e (e_mdCol W T1), if_pos ca, if_neg one_ne, bnd_e (wm _), if_pos cm, if_neg one_ne, bnd_e e_inP, if_pos cp, if_neg one_ne, bnd_e e3]
      dsimp only
      rw [if_pos rfl, f1, bnd_e e6, q1, T6.2.2.2.2, W.1.2.2.2, eB, bnd_e v2]
    · rw [x6.1 0 (by omega)]; exact z3
theorem sq_bd {d : Int} (h1 : -32000 ≤ d) (h2 : d ≤ 32000) : -1024000000 ≤ d * d ∧ d * d ≤ 1024000000 := by
  have h : (d * d).natAbs ≤ 32000 * 32000 := by
    rw [Int.natAbs_mul]
    exact Nat.mul_le_mul (by omega) (by omega)
  omega
theorem g_worth : Gd_worth Inv := by
  intro M1 M2 ⟨n, N, R, B, V, W, C, T⟩ a1 a3
  have hb := W.2.1
  have T1 : RT V (wF M2 0 0 0) := T.sF (Or.inl rfl)
  have z1 : (wF M2 0 0 0).1 0 0 = 0 := wF_at
  have bad : (p_ES_worth a1 a3 M1 = some (some (-1000000000000), M1) ∧ p_Md_worth a1 a3 M2 = some (-1000000000000, wF M2 0 0 0)) ∨ (inb a1 n = true ∧ isP a3 = true) := by
    by_cases ca : inb a1 n = true
    · by_cases cp : isP a3 = true
      · exact Or.inr ⟨ca, cp⟩
      · left; refine ⟨?_, ?_⟩
        · unfold p_ES_worth; rw [bnd_e (e_isCol W C), if_pos ca, if_neg one_ne, bnd_e e_isPart, if_neg cp, if_pos rfl]
        · unfold p_Md_worth; rw [nm_s, bnd_e (e_mdCol W T1), if_pos ca, if_neg one_ne, bnd_e e_inP, if_neg cp, if_pos rfl]
    · left; refine ⟨?_, ?_⟩
      · unfold p_ES_worth; rw [bnd_e (e_isCol W C), if_neg ca, if_pos rfl]
      · unfold p_Md_worth; rw [nm_s, bnd_e (e_mdCol W T1), if_neg ca, if_pos rfl]
  rcases bad with ⟨b1, b2⟩ | ⟨ca, cp⟩
  · exact Or.inl ⟨_, _, _, b1, b2, z1, n, N, R, B, V, W, C, T1⟩
  obtain ⟨f1, f2⟩ := inb_eq ca
  generalize a1.toNatClampNeg = c at f1 f2
  obtain ⟨Mc, ec, xc⟩ := e_change W C (c := c) (by omega)
  have Cc := C.x hb.2.2.2.2 xc
  have hcnt : Mc.1 9 2 = nI B := Cc.1.2.2.2.2.2.trans W.1.2.2.2
  obtain ⟨M3, e3, T3, z3, k3, k3'⟩ := e_thr W T1
  have eB : Int32.toInt64 (nI B) = Int64.ofInt (B : Int) := toL_nI (by omega)
  have pre : p_ES_worth a1 a3 M1 = bnd (p_ES_told (Int64.ofInt (chS R B V c)) (Int64.ofInt ((B * B : Nat) : Int)) a3 Mc) (fun q11 => match q11 with
          | none => some (none, Mc)
          | some q11v => some (some q11v, Mc)) := by
    unfold p_ES_worth
    rw [bnd_e (e_isCol W C), if_pos ca, if_neg one_ne, bnd_e e_isPart, if_pos cp, if_neg one_ne, f1, bnd_e ec]
    simp only [p_Rw_count, bnd_s, hcnt, eB, ← Int64.ofInt_mul, ← Int.natCast_mul]
    generalize p_ES_told _ _ _ _ = z
    cases z with
    | none => rfl
    | some y => cases y <;> rfl
  by_cases c0 : B = 0
  · right
    rw [if_pos c0] at e3 z3
    refine ⟨0, Mc, M3, ?_, ?_, z3, n, N, R, B, V, W, Cc, T3⟩
    · rw [pre]
      have : Int64.ofInt ((B * B : Nat) : Int) = 0 := by rw [c0]; decide
      rw [this, bnd_e told_none]
    · unfold p_Md_worth
      rw [nm_s, bnd_e (e_mdCol W T1), if_pos ca, if_neg one_ne, bnd_e e_inP, if_pos cp, if_neg one_ne, bnd_e e3, if_neg one_ne]
  · left
    rw [if_neg c0] at e3 z3
    obtain ⟨q, e6, q1, x6⟩ := e_mdWorth W T3 (c := c) f2
    have T6 := T3.n x6
    have sb : -51200000000 ≤ chS R B V c ∧ chS R B V c ≤ 51200000000 := by
      have h1 := sm_bound (f := fun f => sm (fun s => (ans R V (setr V (f + 1) c (itm V (s + 1) c)) - ans R V (itm V (f + 1))) * (ans R V (setr V (f + 1) c (itm V (s + 1) c)) - ans R V (itm V (f + 1)))) B) (C := 5 * 1024000000) (k := B) (fun f hf => by
        have h2 := sm_bound (f := fun s => (ans R V (setr V (f + 1) c (itm V (s + 1) c)) - ans R V (itm V (f + 1))) * (ans R V (setr V (f + 1) c (itm V (s + 1) c)) - ans R V (itm V (f + 1)))) (C := 1024000000) (k := B) (fun s hs => by
          have b1 := ans_bound (row := setr V (f + 1) c (itm V (s + 1) c)) W (setr_bd W (by omega) (itm_bd W (by omega) c (by omega)))
          have b2 := ans_bound (row := itm V (f + 1)) W (itm_bd W (by omega))
          exact sq_bd (by omega) (by omega))
        omega)
      unfold chS
      omega
    obtain ⟨v, v1, v2⟩ := told_part (a := chS R B V c) (b := B * B) (pt := a3) (M := Mc) (M' := q.2.2) (by omega) (by omega) (Nat.mul_pos (by omega) (by omega)) (Nat.lt_of_le_of_lt (Nat.mul_le_mul (show B ≤ 5 by omega) (show B ≤ 5 by omega)) (by omega))
    refine ⟨v, Mc, q.2.2, ?_, ?_, ?_, n, N, R, B, V, W, Cc, T6⟩
    · rw [pre, bnd_e v1]
    · unfold p_Md_worth
      rw [nm_s, bnd_e (e_mdCol W T1), if_pos ca, if_neg one_ne, bnd_e e_inP, if_pos cp, if_neg one_ne, bnd_e e3]
      dsimp only
      rw [if_pos rfl, f1, bnd_e e6, q1, T6.2.2.2.2, W.1.2.2.2, eB, ← Int64.ofInt_mul, ← Int.natCast_mul, bnd_e v2]
    · rw [x6.1 0 (by omega)]; exact z3
