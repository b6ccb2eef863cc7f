section PS
variable {n N R B : Nat} {V : Vw} {M : Mem}
theorem e_has (W : WF n N R B V) (C : RC N R B V M) {a : Int32} : p_Ln_hasNode a M = some (if inb a N = true then 1 else 0) := by
  have hb := W.2.1
  have hN : M.1 1 7 = nI N := C.1.2.2.2.1.trans W.1.2.1
  have hi := inb_iff (a := a) (k := N) (by omega)
  unfold p_Ln_hasNode
  rw [hN]
  by_cases c1 : a < 0
  · rw [if_pos c1, if_neg (fun q => (hi.mp q).1 c1)]
  · by_cases c2 : nI N ≤ a
    · rw [if_neg c1, if_pos c2, if_neg (fun q => (hi.mp q).2 c2)]
    · rw [if_neg c1, if_neg c2, if_pos (hi.mpr ⟨c1, c2⟩)]
theorem e_mdHas (W : WF n N R B V) (T : RT V M) {a : Int32} : p_Md_in a 0 (M.1 0 2 - 1) M = some (if inb a N = true then 1 else 0) := by
  have hb := W.2.1
  have tN : M.1 0 2 = nI N := T.2.2.1.trans W.1.2.1
  by_cases h0 : N = 0
  · rw [tN, e_in, h0, if_neg, if_neg]
    · intro q; have := (inb_eq q).2; omega
    · intro ⟨q1, q2⟩
      apply q2
      have e1 : ¬ a.toInt < 0 := by rw [Int32.lt_iff_toInt_lt] at q1; exact q1
      rw [Int32.lt_iff_toInt_lt]
      have : (nI 0 - 1).toInt = -1 := by decide
      omega
  · exact e_inN (by omega) (by omega) tN
/-- a node more, in the class's memory -/
theorem e_addNode (W : WF n N R B V) (C : RC N R B V M) {a1 a2 a3 a4 : Int32} (h : N < 30) : p_Ln_addNode a1 a2 a3 a4 M = some (nI N, wF (wI (wI (wI (wI M 2 (nI N) a1) 3 (nI N) a2) 4 (nI N) a3) 5 (nI N) a4) 1 7 (nI (N + 1))) := by
  have hN : M.1 1 7 = nI N := C.1.2.2.2.1.trans W.1.2.1
  have l : nI N < 30 := nI_lt (b := 30) (by omega) (by omega)
  have i : inb (nI N) 30 = true := inb_nI h (by omega)
  have r1 : (wI M 2 (nI N) a1).1 1 7 = nI N := by rw [wI_ne (by omega)]; exact hN
  have r2 : (wI (wI M 2 (nI N) a1) 3 (nI N) a2).1 1 7 = nI N := by rw [wI_ne (by omega)]; exact r1
  have r3 : (wI (wI (wI M 2 (nI N) a1) 3 (nI N) a2) 4 (nI N) a3).1 1 7 = nI N := by rw [wI_ne (by omega)]; exact r2
  have r4 : (wI (wI (wI (wI M 2 (nI N) a1) 3 (nI N) a2) 4 (nI N) a3) 5 (nI N) a4).1 1 7 = nI N := by rw [wI_ne (by omega)]; exact r3
  unfold p_Ln_addNode
  rw [hN, if_pos l, chk_t i, nm_s, r1, chk_t i, nm_s, r2, chk_t i, nm_s, r3, chk_t i, nm_s, r4, nm_s, nI_1, wF_at, nI_pred]
theorem e_addFull (W : WF n N R B V) (C : RC N R B V M) {a1 a2 a3 a4 : Int32} (h : N = 30) : p_Ln_addNode a1 a2 a3 a4 M = some (-4, M) := by
  have hN : M.1 1 7 = nI N := C.1.2.2.2.1.trans W.1.2.1
  unfold p_Ln_addNode
  rw [hN, h, if_neg (by decide)]
end PS
theorem g_leaf : Gd_leaf Inv := by
  intro M1 M2 ⟨n, N, R, B, V, W, C, T⟩ a1
  have hb := W.2.1
  have T1 : RT V (wF M2 0 0 0) := T.sF (Or.inl rfl)
  have tN : (wF M2 0 0 0).1 0 2 = nI N := T1.2.2.1.trans W.1.2.1
  have wc : ∀ M : Mem, p_ES_isWithin a1 1000 M = some (if isW a1 1000 = true then 1 else 0) := fun M => e_within (b := 1000) (by omega)
  have wm : ∀ M : Mem, p_Md_in a1 (-1000) 1000 M = some (if isW a1 1000 = true then 1 else 0) := fun M => e_inW (b := 1000) (by omega) (by decide)
  by_cases cm : isW a1 1000 = true
  · have hv : -1000 ≤ a1.toInt ∧ a1.toInt ≤ 1000 := by
      unfold isW at cm
      simpa using cm
    by_cases cN : N = 30
    · refine ⟨-4, M1, wF M2 0 0 0, ?_, ?_, n, N, R, B, V, W, C, T1⟩
      · unfold p_ES_leaf p_Ln_addLeaf
        rw [bnd_e (wc _), if_pos cm, if_neg one_ne, bnd_e (e_addFull W C cN)]
        rfl
      · unfold p_Md_leaf
        rw [nm_s, bnd_e (wm _), if_pos cm, if_neg one_ne, tN, cN, if_pos (by decide)]
    · have n30 : ¬ nI N = 30 := fun e => cN ((nI_eq (b := 30) (by omega) (by omega)).mp e)
      have i : inb (nI N) 30 = true := inb_nI (by omega) (by omega)
      have nb : vp_nar .boolean (1 : Int32) = 1 := by decide
      have r1 : (wI (wF M2 0 0 0) 1 (nI N) 1).1 0 2 = nI N := by rw [wI_ne (by omega)]; exact tN
      have r2 : (wI (wI (wF M2 0 0 0) 1 (nI N) 1) 2 (nI N) a1).1 0 2 = nI N := by rw [wI_ne (by omega)]; exact r1
      refine ⟨nI N, wF (wI (wI (wI (wI M1 2 (nI N) (-1)) 3 (nI N) a1) 4 (nI N) 0) 5 (nI N) 0) 1 7 (nI (N + 1)), wF (wI (wI (wF M2 0 0 0) 1 (nI N) 1) 2 (nI N) a1) 0 2 (nI (N + 1)), ?_, ?_, n, N + 1, R, B, vset (vset (vset V 1 N 1) 2 N a1) 0 2 (nI (N + 1)), ?_, ?_, ((T1.set (by omega) (by omega) (by omega)).set (by omega) (by omega) (by omega)).setF⟩
      · unfold p_ES_leaf p_Ln_addLeaf
        rw [bnd_e (wc _), if_pos cm, if_neg one_ne, bnd_e (e_addNode W C (by omega)), bnd_s]
      · unfold p_Md_leaf
        rw [nm_s, bnd_e (wm _), if_pos cm, if_neg one_ne, tN, if_neg n30, chk_t i, nb, nm_s, r1, chk_t i, nm_s, r2, nm_s, nI_1, wF_at, nI_pred]
      · refine ⟨⟨W.1.1, rfl, W.1.2.2.1, W.1.2.2.2⟩, ⟨hb.1, hb.2.1, by omega, hb.2.2.2.1, hb.2.2.2.2⟩, fun j hj => ?_, fun k hk => inb_mono (W.2.2.2.1 k hk) (by omega), W.2.2.2.2.1, W.2.2.2.2.2.1, W.2.2.2.2.2.2.1, W.2.2.2.2.2.2.2⟩
        have v1 : vset (vset (vset V 1 N 1) 2 N a1) 0 2 (nI (N + 1)) 1 j = if j = N then 1 else V 1 j := by rw [vset_ne (by omega), vset_ne (by omega), vset_at]
        have v2 : vset (vset (vset V 1 N 1) 2 N a1) 0 2 (nI (N + 1)) 2 j = if j = N then a1 else V 2 j := by rw [vset_ne (by omega), vset_at, vset_ne (by omega)]
        rw [v1, v2]
        by_cases e : j = N
        · rw [if_pos e, if_pos e]; exact ⟨hv, Or.inl rfl⟩
        · rw [if_neg e, if_neg e]; exact W.2.2.1 j (by omega)
      · refine ⟨⟨C.1.1, C.1.2.1, C.1.2.2.1, rfl, C.1.2.2.2.2.1, C.1.2.2.2.2.2⟩, fun j hj => ?_, C.2.2.1, C.2.2.2.1, C.2.2.2.2.1, ?_, C.2.2.2.2.2.2.1, C.2.2.2.2.2.2.2⟩
        · have v1 : vset (vset (vset V 1 N 1) 2 N a1) 0 2 (nI (N + 1)) 1 j = if j = N then 1 else V 1 j := by rw [vset_ne (by omega), vset_ne (by omega), vset_at]
          have v2 : vset (vset (vset V 1 N 1) 2 N a1) 0 2 (nI (N + 1)) 2 j = if j = N then a1 else V 2 j := by rw [vset_ne (by omega), vset_at, vset_ne (by omega)]
          rw [v1, v2, wF_ne (by omega), wF_ne (by omega), wF_ne (by omega), wF_ne (by omega)]
          rw [wI_ne (by omega : 3 ≠ 5), wI_ne (by omega : 3 ≠ 4), wI_at (by omega), wI_ne (by omega : 3 ≠ 2), wI_ne (by omega : 2 ≠ 5), wI_ne (by omega : 2 ≠ 4), wI_ne (by omega : 2 ≠ 3), wI_at (by omega), wI_ne (by omega : 4 ≠ 5), wI_at (by omega), wI_ne (by omega : 4 ≠ 3), wI_ne (by omega : 4 ≠ 2), wI_at (by omega), wI_ne (by omega : 5 ≠ 4), wI_ne (by omega : 5 ≠ 3), wI_ne (by omega : 5 ≠ 2)]
          by_cases e : j = N
          · rw [if_pos e, if_pos e, if_pos e, if_pos e]
            exact ⟨rfl, fun _ => rfl, fun q => absurd q one_ne⟩
          · rw [if_neg e, if_neg e, if_neg e, if_neg e, if_neg e, if_neg e]
            exact C.2.1 j (by omega)
        · intro r hr k hk
          rw [wF_ne (by omega), wI_ne (by omega), wI_ne (by omega), wI_ne (by omega), wI_ne (by omega), vset_ne (by omega), vset_ne (by omega), vset_ne (by omega)]
          exact C.2.2.2.2.2.1 r hr k hk
  · refine ⟨-2, M1, wF M2 0 0 0, ?_, ?_, n, N, R, B, V, W, C, T1⟩
    · unfold p_ES_leaf; rw [bnd_e (wc _), if_neg cm, if_pos rfl]
    · unfold p_Md_leaf; rw [nm_s, bnd_e (wm _), if_neg cm, if_pos rfl]
