theorem toL_nI {k : Nat} (h : k < 2 ^ 31) : Int32.toInt64 (nI k) = Int64.ofInt (k : Int) := by rw [toL_in, nI_toInt h]
section PS
variable {n N R B : Nat} {V : Vw} {M : Mem}
theorem grp (W : WF n N R B V) {a : Int32} (ca : inb a n = true) : gr V a.toNatClampNeg < 6 ∧ V 8 a.toNatClampNeg = nI (gr V a.toNatClampNeg) ∧ (thN n V).testBit (gr V a.toNatClampNeg) = true ∧ a.toNatClampNeg < 6 := by
  have hb := W.2.1
  obtain ⟨f1, f2⟩ := inb_eq ca
  obtain ⟨g1, g2, -⟩ := gr_lt W (show a.toNatClampNeg < 6 by omega)
  exact ⟨g1, g2, thN_bit.mpr ⟨_, f2, rfl⟩, by omega⟩
theorem e_ofCol (W : WF n N R B V) (C : RC N R B V M) {a : Int32} (ca : inb a n = true) : p_Gr_ofColumn a M = some (nI (gr V a.toNatClampNeg)) := by
  have hb := W.2.1
  obtain ⟨g1, g2, g3, g4⟩ := grp W ca
  unfold p_Gr_ofColumn
  rw [chk_t (inb_mono ca (by omega)), C.2.2.2.2.2.2.1 _ g4, g2]
end PS
theorem g_share : Gd_share Inv := by
  intro M1 M2 ⟨n, N, R, B, V, W, C, T⟩ a1 a2 a3
  have hb := W.2.1
  have T1 : RT V (wF M2 0 0 0) := T.sF (Or.inl rfl)
  have z1 : (wF M2 0 0 0).1 0 0 = 0 := wF_at
  have bad : (p_ES_share a1 a2 a3 M1 = some (some (-1000000000000), M1) ∧ p_Md_share a1 a2 a3 M2 = some (-1000000000000, wF M2 0 0 0)) ∨ (inb a1 n = true ∧ isP a2 = true ∧ isP a3 = true) := by
    by_cases ca : inb a1 n = true
    · by_cases cm : isP a2 = true
      · by_cases cp : isP a3 = true
        · exact Or.inr ⟨ca, cm, cp⟩
        · left; refine ⟨?_, ?_⟩
          · unfold p_ES_share; rw [bnd_e (e_isCol W C), if_pos ca, if_neg one_ne, bnd_e e_isManner, if_pos cm, if_neg one_ne, bnd_e e_isPart, if_neg cp, if_pos rfl]
          · unfold p_Md_share; rw [nm_s, bnd_e (e_mdCol W T1), if_pos ca, if_neg one_ne, bnd_e e_inP, if_pos cm, if_neg one_ne, bnd_e e_inP, if_neg cp, if_pos rfl]
      · left; refine ⟨?_, ?_⟩
        · unfold p_ES_share; rw [bnd_e (e_isCol W C), if_pos ca, if_neg one_ne, bnd_e e_isManner, if_neg cm, if_pos rfl]
        · unfold p_Md_share; rw [nm_s, bnd_e (e_mdCol W T1), if_pos ca, if_neg one_ne, bnd_e e_inP, if_neg cm, if_pos rfl]
    · left; refine ⟨?_, ?_⟩
      · unfold p_ES_share; rw [bnd_e (e_isCol W C), if_neg ca, if_pos rfl]
      · unfold p_Md_share; rw [nm_s, bnd_e (e_mdCol W T1), if_neg ca, if_pos rfl]
  rcases bad with ⟨b1, b2⟩ | ⟨ca, cm, cp⟩
  · exact Or.inl ⟨_, _, _, b1, b2, z1, n, N, R, B, V, W, C, T1⟩
  obtain ⟨g1, g2, g3, g4⟩ := grp W ca
  have eoc := e_ofCol W C ca
  have t8 : ∀ {M' : Mem}, RT V M' → M'.1 8 a1.toNatClampNeg = nI (gr V a1.toNatClampNeg) := fun T' => by rw [T'.1 8 (by omega) (by omega)]; exact g2
  generalize gr V a1.toNatClampNeg = g at g1 g2 g3 eoc t8
  obtain ⟨Mc, ec, xc⟩ := e_shareSum W C g1 a2
  have Cc := C.x hb.2.2.2.2 xc
  have hcnt : Mc.1 9 2 = nI B := Cc.1.2.2.2.2.2.trans W.1.2.2.2
  obtain ⟨t1, t2, t3⟩ := el_t _ (thN_lt W) g g1 g3
  have hm := @pc_le (thN n V)
  have hw := e_shareWays W Cc a2 (by omega)
  have hf := fct_lt (pc (thN n V)) (by omega)
  have h2 : 2 ^ (pc (thN n V) - 1) ≤ 2 ^ 5 := Nat.pow_le_pow_right (by omega) (by omega)
  have h2' : 0 < 2 ^ (pc (thN n V) - 1) := Nat.pow_pos (by omega)
  obtain ⟨M3, e3, T3, z3, k3, k3'⟩ := e_thr W T1
  have eB : Int32.toInt64 (nI B) = Int64.ofInt (B : Int) := toL_nI (by omega)
  have pre : p_ES_share a1 a2 a3 M1 = bnd (p_ES_told (Int64.ofInt (shC n R B V g (decide (a2 = 1)))) (Int64.ofInt (((if a2 = 1 then 2 ^ (pc (thN n V) - 1) else fct (pc (thN n V))) * B : Nat) : Int)) a3 Mc) (fun q11 => match q11 with
          | none => some (none, Mc)
          | some q11v => some (some q11v, Mc)) := by
    unfold p_ES_share
    rw [bnd_e (e_isCol W C), if_pos ca, if_neg one_ne, bnd_e e_isManner, if_pos cm, if_neg one_ne, bnd_e e_isPart, if_pos cp, if_neg one_ne, bnd_e eoc, bnd_e ec]
    dsimp only
    rw [bnd_e hw]
    simp only [p_Rw_count, bnd_s, hcnt, eB, ← Int64.ofInt_mul, ← Int.natCast_mul]
    generalize p_ES_told _ _ _ _ = z
    cases z with
    | none => rfl
    | some y => cases y <;> rfl
  by_cases c0 : B = 0
  · right
    rw [if_pos c0] at e3 z3
    refine ⟨0, Mc, M3, ?_, ?_, z3, n, N, R, B, V, W, Cc, T3⟩
    · rw [pre, c0, Nat.mul_zero, show Int64.ofInt ((0 : Nat) : Int) = 0 by decide, bnd_e told_none]
    · unfold p_Md_share
      rw [nm_s, bnd_e (e_mdCol W T1), if_pos ca, if_neg one_ne, bnd_e e_inP, if_pos cm, if_neg one_ne, bnd_e e_inP, if_pos cp, if_neg one_ne, bnd_e e3, if_neg one_ne]
  · left
    rw [if_neg c0] at e3 z3
    obtain ⟨M4, e4, x4, t4⟩ := e_sumAll W T3
    have T4 := T3.x x4
    have egb := e_groupBits W T4 g1
    have z4 : M4.1 0 0 = 0 := by rw [x4.1 0 (by omega)]; exact z3
    have sb := shC_bd W g1 (mn := decide (a2 = 1))
    by_cases c2 : a2 = 0
    · have n1 : ¬ a2 = 1 := by rw [c2]; decide
      obtain ⟨M5, e5, x5, a17⟩ := e_mdShare W T4 t4 t2
      rw [t1] at e5
      have T5 := T4.o x5
      obtain ⟨v, v1, v2⟩ := told_part (a := shC n R B V g false) (b := fct (pc (thN n V)) * B) (pt := a3) (M := Mc) (M' := M5) (by rw [decide_eq_false n1] at sb; omega) (by rw [decide_eq_false n1] at sb; omega) (Nat.mul_pos hf.2 (by omega)) (Nat.lt_of_le_of_lt (Nat.mul_le_mul (show fct (pc (thN n V)) ≤ 1024 by omega) (show B ≤ 5 by omega)) (by omega))
      refine ⟨v, Mc, M5, ?_, ?_, ?_, n, N, R, B, V, W, Cc, T5⟩
      · rw [pre, decide_eq_false n1, if_neg n1, bnd_e v1]
      · unfold p_Md_share
        rw [nm_s, bnd_e (e_mdCol W T1), if_pos ca, if_neg one_ne, bnd_e e_inP, if_pos cm, if_neg one_ne, bnd_e e_inP, if_pos cp, if_neg one_ne, bnd_e e3]
        dsimp only
        rw [if_pos rfl, bnd_e e4, chk_t (inb_mono ca (by omega)), t8 T4, bnd_e egb, if_pos c2, bnd_e e5]
        dsimp only
        rw [if_pos c2, bnd_e (e_orders (by omega) a17), T5.2.2.2.2, W.1.2.2.2, eB, toL_nI (by omega), ← Int64.ofInt_mul, ← Int.natCast_mul, Nat.mul_comm B, bnd_e v2]
      · rw [x5.2.2 0 (by omega)]; exact z4
    · have n1 : a2 = 1 := by
        simp only [isP, Bool.or_eq_true, decide_eq_true_eq] at cm
        exact cm.resolve_left c2
      obtain ⟨M5, e5, x5, a17⟩ := e_mdSet W T4 t4 t2
      rw [t1] at e5
      have T5 := T4.o x5
      obtain ⟨v, v1, v2⟩ := told_part (a := shC n R B V g true) (b := 2 ^ (pc (thN n V) - 1) * B) (pt := a3) (M := Mc) (M' := M5) (by rw [decide_eq_true n1] at sb; omega) (by rw [decide_eq_true n1] at sb; omega) (Nat.mul_pos h2' (by omega)) (Nat.lt_of_le_of_lt (Nat.mul_le_mul h2 (show B ≤ 5 by omega)) (by omega))
      have es : (1 : Int32) <<< ((M5.1 0 17 - 1) &&& 31) = nI (2 ^ (pc (thN n V) - 1)) := by
        rw [a17, show nI (pc (thN n V)) - 1 = nI (pc (thN n V) - 1) from nI_sub (show 1 ≤ pc (thN n V) by omega), shl_t _ (by omega)]
      refine ⟨v, Mc, M5, ?_, ?_, ?_, n, N, R, B, V, W, Cc, T5⟩
      · rw [pre, decide_eq_true n1, if_pos n1, bnd_e v1]
      · unfold p_Md_share
        rw [nm_s, bnd_e (e_mdCol W T1), if_pos ca, if_neg one_ne, bnd_e e_inP, if_pos cm, if_neg one_ne, bnd_e e_inP, if_pos cp, if_neg one_ne, bnd_e e3]
        dsimp only
        rw [if_pos rfl, bnd_e e4, chk_t (inb_mono ca (by omega)), t8 T4, bnd_e egb, if_neg c2, bnd_e e5]
        dsimp only
        rw [if_neg c2, es, T5.2.2.2.2, W.1.2.2.2, eB, toL_nI (by omega), ← Int64.ofInt_mul, ← Int.natCast_mul, Nat.mul_comm B, bnd_e v2]
      · rw [x5.2.2 0 (by omega)]; exact z4
theorem g_both : Gd_both Inv := by
  intro M1 M2 ⟨n, N, R, B, V, W, C, T⟩ a1 a2 a3
  have hb := W.2.1
  have T1 : RT V (wF M2 0 0 0) := T.sF (Or.inl rfl)
  have z1 : (wF M2 0 0 0).1 0 0 = 0 := wF_at
  have bad : (p_ES_both a1 a2 a3 M1 = some (some (-1000000000000), M1) ∧ p_Md_both a1 a2 a3 M2 = some (-1000000000000, wF M2 0 0 0)) ∨ (inb a1 n = true ∧ inb a2 n = true ∧ isP a3 = true) := by
    by_cases ca : inb a1 n = true
    · by_cases cm : inb a2 n = true
      · by_cases cp : isP a3 = true
        · exact Or.inr ⟨ca, cm, cp⟩
        · left; refine ⟨?_, ?_⟩
          · unfold p_ES_both; rw [bnd_e (e_isCol W C), if_pos ca, if_neg one_ne, bnd_e (e_isCol W C), if_pos cm, if_neg one_ne, bnd_e e_isPart, if_neg cp, if_pos rfl]
          · unfold p_Md_both; rw [nm_s, bnd_e (e_mdCol W T1), if_pos ca, if_neg one_ne, bnd_e (e_mdCol W T1), if_pos cm, if_neg one_ne, bnd_e e_inP, if_neg cp, if_pos rfl]
      · left; refine ⟨?_, ?_⟩
        · unfold p_ES_both; rw [bnd_e (e_isCol W C), if_pos ca, if_neg one_ne, bnd_e (e_isCol W C), if_neg cm, if_pos rfl]
        · unfold p_Md_both; rw [nm_s, bnd_e (e_mdCol W T1), if_pos ca, if_neg one_ne, bnd_e (e_mdCol W T1), if_neg cm, if_pos rfl]
    · left; refine ⟨?_, ?_⟩
      · unfold p_ES_both; rw [bnd_e (e_isCol W C), if_neg ca, if_pos rfl]
      · unfold p_Md_both; rw [nm_s, bnd_e (e_mdCol W T1), if_neg ca, if_pos rfl]
  rcases bad with ⟨b1, b2⟩ | ⟨ca, cm, cp⟩
  · exact Or.inl ⟨_, _, _, b1, b2, z1, n, N, R, B, V, W, C, T1⟩
  obtain ⟨g1, g2, g3, g4⟩ := grp W ca
  obtain ⟨h1, h2, h3, h4⟩ := grp W cm
  have eoc := e_ofCol W C ca
  have eod := e_ofCol W C cm
  have t8 : ∀ {M' : Mem}, RT V M' → M'.1 8 a1.toNatClampNeg = nI (gr V a1.toNatClampNeg) := fun T' => by rw [T'.1 8 (by omega) (by omega)]; exact g2
  have t9 : ∀ {M' : Mem}, RT V M' → M'.1 8 a2.toNatClampNeg = nI (gr V a2.toNatClampNeg) := fun T' => by rw [T'.1 8 (by omega) (by omega)]; exact h2
  generalize gr V a1.toNatClampNeg = g at g1 g2 g3 eoc t8
  generalize gr V a2.toNatClampNeg = h at h1 h2 h3 eod t9
  have i6 := inb_mono ca hb.2.1
  have j6 := inb_mono cm hb.2.1
  have ee : nI g = nI h ↔ g = h := nI_eq (by omega) (by omega)
  by_cases ne : g = h
  · left
    refine ⟨-1000000000000, M1, wF M2 0 0 0, ?_, ?_, z1, n, N, R, B, V, W, C, T1⟩
    · unfold p_ES_both; rw [bnd_e (e_isCol W C), if_pos ca, if_neg one_ne, bnd_e (e_isCol W C), if_pos cm, if_neg one_ne, bnd_e e_isPart, if_pos cp, if_neg one_ne, bnd_e eoc, bnd_e eod, if_pos (ee.mpr ne)]
    · unfold p_Md_both; rw [nm_s, bnd_e (e_mdCol W T1), if_pos ca, if_neg one_ne, bnd_e (e_mdCol W T1), if_pos cm, if_neg one_ne, bnd_e e_inP, if_pos cp, if_neg one_ne, chk_t i6, chk_t j6, t8 T1, t9 T1, if_pos (ee.mpr ne)]
  obtain ⟨Mc, ec, xc⟩ := e_togetherSum W C g1 h1
  have Cc := C.x hb.2.2.2.2 xc
  have hcnt : Mc.1 9 2 = nI B := Cc.1.2.2.2.2.2.trans W.1.2.2.2
  have o1 := (oth_t _ (thN_lt W) g g1).2
  have p1 := pc_oth _ (thN_lt W) g g1 g3
  have p2 := pc_oth _ o1 h h1 ((oth_bit _ (thN_lt W) g g1 h h1).mpr ⟨h3, fun e => ne e.symm⟩)
  have hm := @pc_le (thN n V)
  have hw := e_togetherWays W Cc (by omega)
  have hf := fct_lt (pc (thN n V) - 1) (by omega)
  obtain ⟨M3, e3, T3, z3, k3, k3'⟩ := e_thr W T1
  have eB : Int32.toInt64 (nI B) = Int64.ofInt (B : Int) := toL_nI (by omega)
  have pre : p_ES_both a1 a2 a3 M1 = bnd (p_ES_told (Int64.ofInt (tgC n R B V g h)) (Int64.ofInt ((fct (pc (thN n V) - 1) * B : Nat) : Int)) a3 Mc) (fun q11 => match q11 with
          | none => some (none, Mc)
          | some q11v => some (some q11v, Mc)) := by
    unfold p_ES_both
    rw [bnd_e (e_isCol W C), if_pos ca, if_neg one_ne, bnd_e (e_isCol W C), if_pos cm, if_neg one_ne, bnd_e e_isPart, if_pos cp, if_neg one_ne, bnd_e eoc, bnd_e eod, if_neg (mt ee.mp ne), bnd_e ec]
    dsimp only
    rw [bnd_e hw]
    simp only [p_Rw_count, bnd_s, hcnt, eB, ← Int64.ofInt_mul, ← Int.natCast_mul]
    generalize p_ES_told _ _ _ _ = z
    cases z with
    | none => rfl
    | some y => cases y <;> rfl
  by_cases c0 : B = 0
  · right
    rw [if_pos c0] at e3 z3
    refine ⟨0, Mc, M3, ?_, ?_, z3, n, N, R, B, V, W, Cc, T3⟩
    · rw [pre, c0, Nat.mul_zero, show Int64.ofInt ((0 : Nat) : Int) = 0 by decide, bnd_e told_none]
    · unfold p_Md_both
      rw [nm_s, bnd_e (e_mdCol W T1), if_pos ca, if_neg one_ne, bnd_e (e_mdCol W T1), if_pos cm, if_neg one_ne, bnd_e e_inP, if_pos cp, if_neg one_ne, chk_t i6, chk_t j6, t8 T1, t9 T1, if_neg (mt ee.mp ne), bnd_e e3, if_neg one_ne]
  · left
    rw [if_neg c0] at e3 z3
    obtain ⟨M4, e4, x4, t4⟩ := e_sumAll W T3
    have T4 := T3.x x4
    have z4 : M4.1 0 0 = 0 := by rw [x4.1 0 (by omega)]; exact z3
    obtain ⟨M5, e5, x5, a17, a13⟩ := e_list2 W T4 g1 h1 g3 h3 ne
    have T5 := T4.o x5
    obtain ⟨q, e6, q1, x6, b17⟩ := e_mdBoth W T5 (fun j hj => by rw [x5.1]; exact t4 j hj) g1 h1 g3 h3 ne ⟨M4, x5⟩ a17 a13
    have T6 := T5.o x6
    have sb := tgC_bd W g1 h1
    have em : pc (oth (oth (thN n V) g) h) + 1 = pc (thN n V) - 1 := by omega
    rw [em] at b17
    obtain ⟨v, v1, v2⟩ := told_part (a := tgC n R B V g h) (b := fct (pc (thN n V) - 1) * B) (pt := a3) (M := Mc) (M' := q.2.2) (by omega) (by omega) (Nat.mul_pos hf.2 (by omega)) (Nat.lt_of_le_of_lt (Nat.mul_le_mul (show fct (pc (thN n V) - 1) ≤ 1024 by omega) (show B ≤ 5 by omega)) (by omega))
    refine ⟨v, Mc, q.2.2, ?_, ?_, ?_, n, N, R, B, V, W, Cc, T6⟩
    · rw [pre, bnd_e v1]
    · unfold p_Md_both
      rw [nm_s, bnd_e (e_mdCol W T1), if_pos ca, if_neg one_ne, bnd_e (e_mdCol W T1), if_pos cm, if_neg one_ne, bnd_e e_inP, if_pos cp, if_neg one_ne, chk_t i6, chk_t j6, t8 T1, t9 T1, if_neg (mt ee.mp ne), bnd_e e3]
      dsimp only
      rw [if_pos rfl, bnd_e e4, chk_t i6, t8 T4, bnd_e (e_groupBits W T4 g1), chk_t j6, t9 T4, bnd_e (e_groupBits W T4 h1), bnd_e e5, bnd_e e6, bnd_e (e_orders (by omega) b17), q1, T6.2.2.2.2, W.1.2.2.2, eB, toL_nI (by omega), ← Int64.ofInt_mul, ← Int.natCast_mul, Nat.mul_comm B, bnd_e v2]
    · rw [x6.2.2 0 (by omega), x5.2.2 0 (by omega)]; exact z4
