/-! what both sides have in common -/
def Inv (M1 M2 : Mem) : Prop := ∃ (n N R B : Nat) (V : Vw), WF n N R B V ∧ RC N R B V M1 ∧ RT V M2
theorem inb_iff {a : Int32} {k : Nat} (hk : k < 2 ^ 31) : inb a k = true ↔ ¬ a < 0 ∧ ¬ nI k ≤ a := by
  have h1 : (a < 0) ↔ a.toInt < 0 := by rw [Int32.lt_iff_toInt_lt]; exact Iff.rfl
  have h2 : (nI k ≤ a) ↔ (k : Int) ≤ a.toInt := by rw [Int32.le_iff_toInt_le, nI_toInt hk]
  have h3 : a.toNatClampNeg = a.toInt.toNat := rfl
  simp only [inb, Bool.and_eq_true, Bool.not_eq_true', decide_eq_false_iff_not, decide_eq_true_eq]
  rw [h1, h2, h3]
  omega
theorem inb_iff2 {a : Int32} {k : Nat} (h0 : 0 < k) (hk : k < 2 ^ 31) : inb a k = true ↔ ¬ a < 0 ∧ ¬ nI k - 1 < a := by
  rw [inb_iff hk, show (1 : Int32) = nI 1 from rfl, nI_sub h0]
  have h2 : (nI k ≤ a) ↔ (k : Int) ≤ a.toInt := by rw [Int32.le_iff_toInt_le, nI_toInt hk]
  have h3 : (nI (k - 1) < a) ↔ ((k - 1 : Nat) : Int) < a.toInt := by rw [Int32.lt_iff_toInt_lt, nI_toInt (by omega)]
  rw [h2, h3]
  refine and_congr_right (fun _ => ?_)
  omega
def isP (a : Int32) : Bool := decide (a = 0) || decide (a = 1)
theorem isP_iff {a : Int32} : isP a = true ↔ ¬ a < 0 ∧ ¬ (1 : Int32) < a := by
  have h1 : (a < 0) ↔ a.toInt < 0 := by rw [Int32.lt_iff_toInt_lt]; exact Iff.rfl
  have h2 : ((1 : Int32) < a) ↔ 1 < a.toInt := by rw [Int32.lt_iff_toInt_lt]; exact Iff.rfl
  have h3 : (a = 0) ↔ a.toInt = 0 := by rw [← Int32.toInt_inj]; exact Iff.rfl
  have h4 : (a = 1) ↔ a.toInt = 1 := by rw [← Int32.toInt_inj]; exact Iff.rfl
  simp only [isP, Bool.or_eq_true, decide_eq_true_eq]
  rw [h1, h2, h3, h4]
  omega
theorem e_in {a l h : Int32} {M : Mem} : p_Md_in a l h M = some (if ¬ a < l ∧ ¬ h < a then 1 else 0) := by
  unfold p_Md_in
  by_cases c1 : a < l
  · rw [if_pos c1, if_neg (fun q => q.1 c1)]
  · by_cases c2 : h < a
    · rw [if_neg c1, if_pos c2, if_neg (fun q => q.2 c2)]
    · rw [if_neg c1, if_neg c2, if_pos ⟨c1, c2⟩]
theorem e_isPart {a : Int32} {M : Mem} : p_ES_isPart a M = some (if isP a = true then 1 else 0) := by
  unfold p_ES_isPart isP
  by_cases c1 : a = 0
  · simp [c1]
  · by_cases c2 : a = 1
    · simp [c2]
    · simp [c1, c2]
theorem e_isManner {a : Int32} {M : Mem} : p_ES_isManner a M = some (if isP a = true then 1 else 0) := e_isPart (M := M)
theorem e_inP {a : Int32} {M : Mem} : p_Md_in a 0 1 M = some (if isP a = true then 1 else 0) := by
  rw [e_in]
  by_cases c : isP a = true
  · rw [if_pos c, if_pos (isP_iff.mp c)]
  · rw [if_neg c, if_neg (mt isP_iff.mpr c)]
section PS
variable {n N R B : Nat} {V : Vw} {M : Mem}
theorem e_isCol (W : WF n N R B V) (C : RC N R B V M) {a : Int32} : p_ES_isColumn a M = some (if inb a n = true then 1 else 0) := by
  have hb := W.2.1
  have h := inb_iff (a := a) (k := n) (by omega)
  unfold p_ES_isColumn
  rw [C.1.1, W.1.1]
  by_cases c1 : a < 0
  · rw [if_pos c1, if_neg (fun q => (h.mp q).1 c1)]
  · by_cases c2 : nI n ≤ a
    · rw [if_neg c1, if_pos c2, if_neg (fun q => (h.mp q).2 c2)]
    · rw [if_neg c1, if_neg c2, if_pos (h.mpr ⟨c1, c2⟩)]
theorem e_inN {a v : Int32} {k : Nat} (h0 : 0 < k) (hk : k < 2 ^ 31) (hv : v = nI k) : p_Md_in a 0 (v - 1) M = some (if inb a k = true then 1 else 0) := by
  rw [e_in, hv]
  have h := inb_iff2 (a := a) h0 hk
  by_cases c : inb a k = true
  · rw [if_pos c, if_pos (h.mp c)]
  · rw [if_neg c, if_neg (mt h.mpr c)]
theorem e_mdCol (W : WF n N R B V) (T : RT V M) {a : Int32} : p_Md_isColumn a M = some (if inb a n = true then 1 else 0) := by
  have hb := W.2.1
  unfold p_Md_isColumn
  rw [bnd_e (e_inN (k := n) (by omega) (by omega) (T.2.1.trans W.1.1))]
  rw [chk_t]
  split <;> decide
theorem e_thr (W : WF n N R B V) (T : RT V M) : ∃ M', p_Md_throwsNow M = some ((if B = 0 then 1 else 0), M') ∧ RT V M' ∧ M'.1 0 0 = (if B = 0 then 1 else 0) ∧ (∀ k, k ≠ 0 → M'.1 k = M.1 k) ∧ M'.2 = M.2 := by
  have hb := W.2.1
  have e : M.1 0 13 = 0 ↔ B = 0 := by rw [T.2.2.2.2, W.1.2.2.2]; exact nI_z (by omega)
  unfold p_Md_throwsNow
  by_cases c : B = 0
  · have c' := e.mpr c
    have c2 : (wF M 0 0 1).1 0 13 = 0 := (T.sF (Or.inl rfl)).2.2.2.2.trans (T.2.2.2.2.symm.trans c')
    refine ⟨wF M 0 0 1, ?_, T.sF (Or.inl rfl), by rw [if_pos c]; exact wF_at, fun k hk => wF_ne hk, rfl⟩
    rw [if_pos c', nm_s, if_pos c2, if_pos c]
  · have c' := mt e.mp c
    have c2 : ¬ (wF M 0 0 0).1 0 13 = 0 := by rw [(T.sF (Or.inl rfl)).2.2.2.2, ← T.2.2.2.2]; exact c'
    refine ⟨wF M 0 0 0, ?_, T.sF (Or.inl rfl), by rw [if_neg c]; exact wF_at, fun k hk => wF_ne hk, rfl⟩
    rw [if_neg c', nm_s, if_neg c2, if_neg c]
theorem one_ne : ¬ (1 : Int32) = 0 := by decide
end PS
theorem g_value : Gd_value Inv := by
  intro M1 M2 ⟨n, N, R, B, V, W, C, T⟩ a1 a2
  have hb := W.2.1
  have hp6 := pw6 hb.2.1
  have T1 : RT V (wF M2 0 0 0) := T.sF (Or.inl rfl)
  have z1 : (wF M2 0 0 0).1 0 0 = 0 := wF_at
  have s1 : (1 : Int32) <<< (M1.1 0 0 &&& 31) = nI (2 ^ n) := by rw [C.1.1, W.1.1, shl_t n (by omega)]
  have s2 : (1 : Int32) <<< ((wF M2 0 0 0).1 0 1 &&& 31) = nI (2 ^ n) := by rw [T1.2.1, W.1.1, shl_t n (by omega)]
  have hpos : 0 < 2 ^ n := Nat.pow_pos (by omega)
  have hi := inb_iff (a := a1) (k := 2 ^ n) (by omega)
  have em := e_inN (M := wF M2 0 0 0) (a := a1) (k := 2 ^ n) hpos (by omega) s2
  by_cases ca : inb a1 (2 ^ n) = true
  · obtain ⟨c1, c2⟩ := hi.mp ca
    obtain ⟨f1, f2⟩ := inb_eq ca
    rw [if_pos ca] at em
    by_cases cp : isP a2 = true
    · obtain ⟨M3, e3, T3, z3, k3, k3'⟩ := e_thr W T1
      obtain ⟨Mc, ec, xc⟩ := e_total W C (set := a1.toNatClampNeg) (by omega)
      rw [← f1] at ec
      have Cc := C.x hb.2.2.2.2 xc
      have hcnt : Mc.1 9 2 = nI B := Cc.1.2.2.2.2.2.trans W.1.2.2.2
      by_cases c0 : B = 0
      · right
        rw [if_pos c0] at e3 z3
        refine ⟨0, Mc, M3, ?_, ?_, z3, n, N, R, B, V, W, Cc, T3⟩
        · unfold p_ES_value
          rw [if_neg c1, s1, if_neg c2, bnd_e e_isPart, if_pos cp, if_neg one_ne, bnd_e ec]
          simp only [p_Rw_count, bnd_s, hcnt, c0]
          rw [show Int32.toInt64 (nI 0) = 0 by decide, bnd_e told_none]
        · unfold p_Md_value
          rw [nm_s, bnd_e em, if_neg one_ne, bnd_e e_inP, if_pos cp, if_neg one_ne, bnd_e e3, if_neg one_ne]
      · left
        rw [if_neg c0] at e3 z3
        obtain ⟨M4, e4, x4, t4⟩ := e_sumAll W T3
        have T4 := T3.x x4
        have tb := tot_bd W (s := a1.toNatClampNeg)
        obtain ⟨v, v1, v2⟩ := told_part (a := tot R B V a1.toNatClampNeg) (b := B) (pt := a2) (M := Mc) (M' := M4) (by omega) (by omega) (by omega) (by omega)
        have eB : Int32.toInt64 (nI B) = Int64.ofInt (B : Int) := by rw [toL_in, nI_toInt (by omega)]
        refine ⟨v, Mc, M4, ?_, ?_, ?_, n, N, R, B, V, W, Cc, T4⟩
        · unfold p_ES_value
          rw [if_neg c1, s1, if_neg c2, bnd_e e_isPart, if_pos cp, if_neg one_ne, bnd_e ec]
          simp only [p_Rw_count, bnd_s, hcnt, eB]
          rw [bnd_e v1]
        · unfold p_Md_value
          rw [nm_s, bnd_e em, if_neg one_ne, bnd_e e_inP, if_pos cp, if_neg one_ne, bnd_e e3]
          dsimp only
          rw [if_pos rfl, bnd_e e4, chk_t (inb_mono ca hp6), t4 _ f2, T4.2.2.2.2, W.1.2.2.2, eB, bnd_e v2]
        · rw [x4.1 0 (by omega)]; exact z3
    · left
      refine ⟨-1000000000000, M1, wF M2 0 0 0, ?_, ?_, z1, n, N, R, B, V, W, C, T1⟩
      · unfold p_ES_value
        rw [if_neg c1, s1, if_neg c2, bnd_e e_isPart, if_neg cp, if_pos rfl]
      · unfold p_Md_value
        rw [nm_s, bnd_e em, if_neg one_ne, bnd_e e_inP, if_neg cp, if_pos rfl]
  · left
    rw [if_neg ca] at em
    refine ⟨-1000000000000, M1, wF M2 0 0 0, ?_, ?_, z1, n, N, R, B, V, W, C, T1⟩
    · unfold p_ES_value
      rw [s1]
      by_cases c1 : a1 < 0
      · rw [if_pos c1]
      · rw [if_neg c1, if_pos (Decidable.byContradiction fun q => ca (hi.mpr ⟨c1, q⟩))]
    · unfold p_Md_value
      rw [nm_s, bnd_e em, if_pos rfl]
