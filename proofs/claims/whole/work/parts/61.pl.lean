theorem RT.setF {V : Vw} {M : Mem} (T : RT V M) {j : Nat} {v : Int32} : RT (vset V 0 j v) (wF M 0 j v) := by
  refine ⟨fun q a b => ?_, ?_, ?_, ?_, ?_⟩
  · rw [wF_ne (by omega), vset_ne (by omega), T.1 q a b]
  all_goals
    rw [vset_at]
    show (if 0 = 0 then upd (M.1 0) j v else M.1 0) _ = _
    rw [if_pos rfl]
    show (if _ = j then v else _) = _
    split
    · rfl
  · exact T.2.1
  · exact T.2.2.1
  · exact T.2.2.2.1
  · exact T.2.2.2.2
theorem wF_o {M : Mem} {k j q : Nat} {v : Int32} (h : q ≠ j) : (wF M k j v).1 k q = M.1 k q := by
  show (if k = k then upd (M.1 k) j v else M.1 k) q = _
  rw [if_pos rfl]
  show (if q = j then v else _) = _
  rw [if_neg h]
theorem g_root : Gd_root Inv := by
  intro M1 M2 ⟨n, N, R, B, V, W, C, T⟩ a1
  have hb := W.2.1
  have T1 : RT V (wF M2 0 0 0) := T.sF (Or.inl rfl)
  have hN : M1.1 1 7 = nI N := C.1.2.2.2.1.trans W.1.2.1
  have hR : M1.1 1 8 = nI R := C.1.2.2.2.2.1.trans W.1.2.2.1
  have tN : (wF M2 0 0 0).1 0 2 = nI N := T1.2.2.1.trans W.1.2.1
  have tR : (wF M2 0 0 0).1 0 8 = nI R := T1.2.2.2.1.trans W.1.2.2.1
  have hi := inb_iff (a := a1) (k := N) (by omega)
  have ec : p_Ln_hasNode a1 M1 = some (if inb a1 N = true then 1 else 0) := by
    unfold p_Ln_hasNode
    rw [hN]
    by_cases c1 : a1 < 0
    · rw [if_pos c1, if_neg (fun q => (hi.mp q).1 c1)]
    · by_cases c2 : nI N ≤ a1
      · rw [if_neg c1, if_pos c2, if_neg (fun q => (hi.mp q).2 c2)]
      · rw [if_neg c1, if_neg c2, if_pos (hi.mpr ⟨c1, c2⟩)]
  have em : p_Md_in a1 0 ((wF M2 0 0 0).1 0 2 - 1) (wF M2 0 0 0) = some (if inb a1 N = true then 1 else 0) := by
    by_cases h0 : N = 0
    · rw [tN, e_in, h0, if_neg, if_neg]
      · intro q; have := (inb_eq q).2; omega
      · intro ⟨q1, q2⟩
        apply q2
        have e1 : ¬ a1.toInt < 0 := by rw [Int32.lt_iff_toInt_lt] at q1; exact q1
        rw [Int32.lt_iff_toInt_lt]
        have : (nI 0 - 1).toInt = -1 := by decide
        omega
    · exact e_inN (by omega) (by omega) tN
  by_cases ca : inb a1 N = true
  · by_cases cR : R = 4
    · refine ⟨-4, M1, wF M2 0 0 0, ?_, ?_, n, N, R, B, V, W, C, T1⟩
      · unfold p_ES_root p_Ln_addRoot
        rw [bnd_e ec, if_pos ca, if_neg one_ne, hR, cR, if_neg (by decide)]
        rfl
      · unfold p_Md_root
        rw [nm_s, bnd_e em, if_pos ca, if_neg one_ne, tR, cR, if_pos (by decide)]
    · have l4 : nI R < 4 := nI_lt (b := 4) (by omega) (by omega)
      have n4 : ¬ nI R = 4 := fun e => cR ((nI_eq (b := 4) (by omega) (by omega)).mp e)
      have i4 : inb (nI R) 4 = true := inb_nI (by omega) (by omega)
      have r1 : (wI M1 7 (nI R) a1).1 1 8 = nI R := by rw [wI_ne (by omega)]; exact hR
      have r2 : (wI (wF M2 0 0 0) 6 (nI R) a1).1 0 8 = nI R := by rw [wI_ne (by omega)]; exact tR
      refine ⟨nI (R + 1), wF (wI M1 7 (nI R) a1) 1 8 (nI (R + 1)), wF (wI (wF M2 0 0 0) 6 (nI R) a1) 0 8 (nI (R + 1)), ?_, ?_, n, N, R + 1, B, vset (vset V 6 R a1) 0 8 (nI (R + 1)), ?_, ?_, (T1.set (by omega) (by omega) (by omega)).setF⟩
      · unfold p_ES_root p_Ln_addRoot
        rw [bnd_e ec, if_pos ca, if_neg one_ne, hR, if_pos l4, chk_t i4, nm_s, nm_s, r1, nI_1]
        rw [bnd_s, wF_at]
      · unfold p_Md_root
        rw [nm_s, bnd_e em, if_pos ca, if_neg one_ne, tR, if_neg n4, chk_t i4, nm_s, nm_s, r2, nI_1, wF_at]
      · refine ⟨⟨W.1.1, W.1.2.1, rfl, W.1.2.2.2⟩, ⟨hb.1, hb.2.1, hb.2.2.1, by omega, hb.2.2.2.2⟩, W.2.2.1, fun k hk => ?_, W.2.2.2.2.1, W.2.2.2.2.2.1, W.2.2.2.2.2.2.1, W.2.2.2.2.2.2.2⟩
        rw [vset_ne (by omega), vset_at]
        by_cases e : k = R
        · rw [if_pos e]; exact ca
        · rw [if_neg e]; exact W.2.2.2.1 k (by omega)
      · refine ⟨⟨C.1.1, C.1.2.1, C.1.2.2.1, C.1.2.2.2.1, rfl, C.1.2.2.2.2.2⟩, C.2.1, fun k hk => ?_, C.2.2.2.1, C.2.2.2.2.1, ?_, C.2.2.2.2.2.2.1, C.2.2.2.2.2.2.2⟩
        · rw [wF_ne (by omega), wI_at (by omega), vset_ne (by omega), vset_at]
          by_cases e : k = R
          · rw [if_pos e, if_pos e]
          · rw [if_neg e, if_neg e]; exact C.2.2.1 k (by omega)
        · intro r hr k hk
          rw [wF_ne (by omega), wI_ne (by omega), vset_ne (by omega), vset_ne (by omega)]
          exact C.2.2.2.2.2.1 r hr k hk
  · refine ⟨-1, M1, wF M2 0 0 0, ?_, ?_, n, N, R, B, V, W, C, T1⟩
    · unfold p_ES_root; rw [bnd_e ec, if_neg ca, if_pos rfl]
    · unfold p_Md_root; rw [nm_s, bnd_e em, if_neg ca, if_pos rfl]
