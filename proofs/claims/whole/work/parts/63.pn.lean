theorem g_split : Gd_split Inv := by
  intro M1 M2 ⟨n, N, R, B, V, W, C, T⟩ a1 a2 a3 a4
  have hb := W.2.1
  have T1 : RT V (wF M2 0 0 0) := T.sF (Or.inl rfl)
  have tN : (wF M2 0 0 0).1 0 2 = nI N := T1.2.2.1.trans W.1.2.1
  have wc : ∀ M : Mem, p_ES_isWithin a2 100 M = some (if isW a2 100 = true then 1 else 0) := fun M => e_within (b := 100) (by omega)
  have wm : ∀ M : Mem, p_Md_in a2 (-100) 100 M = some (if isW a2 100 = true then 1 else 0) := fun M => e_inW (b := 100) (by omega) (by decide)
  have bad : ∀ r : Int32, p_ES_split a1 a2 a3 a4 M1 = some (r, M1) → p_Md_split a1 a2 a3 a4 M2 = some (r, wF M2 0 0 0) → ∃ (r : Int32) (N1 N2 : Mem), p_ES_split a1 a2 a3 a4 M1 = some (r, N1) ∧ p_Md_split a1 a2 a3 a4 M2 = some (r, N2) ∧ Inv N1 N2 := fun r h1 h2 => ⟨r, _, _, h1, h2, n, N, R, B, V, W, C, T1⟩
  by_cases ca : inb a1 n = true
  · by_cases c3 : inb a3 N = true
    · by_cases c4 : inb a4 N = true
      · by_cases cm : isW a2 100 = true
        · have hv : -100 ≤ a2.toInt ∧ a2.toInt ≤ 100 := by
            unfold isW at cm
            simpa using cm
          by_cases cN : N = 30
          · refine bad (-4) ?_ ?_
            · unfold p_ES_split p_Ln_addSplit
              rw [bnd_e (e_isCol W C), if_pos ca, if_neg one_ne, bnd_e (e_has W C), if_pos c3, if_neg one_ne, bnd_e (e_has W C), if_pos c4, if_neg one_ne, bnd_e (wc _), if_pos cm, if_neg one_ne, bnd_e (e_addFull W C cN)]
              rfl
            · unfold p_Md_split
              rw [nm_s, bnd_e (e_mdCol W T1), if_pos ca, if_neg one_ne, bnd_e (e_mdHas W T1), if_pos c3, if_neg one_ne, bnd_e (e_mdHas W T1), if_pos c4, if_neg one_ne, bnd_e (wm _), if_pos cm, if_neg one_ne, tN, cN, if_pos (by decide)]
          · have n30 : ¬ nI N = 30 := fun e => cN ((nI_eq (b := 30) (by omega) (by omega)).mp e)
            have i : inb (nI N) 30 = true := inb_nI (by omega) (by omega)
            have nb : vp_nar .boolean (0 : Int32) = 0 := by decide
            have r1 : (wI (wF M2 0 0 0) 1 (nI N) 0).1 0 2 = nI N := by rw [wI_ne (by omega)]; exact tN
            have r2 : (wI (wI (wF M2 0 0 0) 1 (nI N) 0) 2 (nI N) a2).1 0 2 = nI N := by rw [wI_ne (by omega)]; exact r1
            have r3 : (wI (wI (wI (wF M2 0 0 0) 1 (nI N) 0) 2 (nI N) a2) 3 (nI N) a1).1 0 2 = nI N := by rw [wI_ne (by omega)]; exact r2
            have r4 : (wI (wI (wI (wI (wF M2 0 0 0) 1 (nI N) 0) 2 (nI N) a2) 3 (nI N) a1) 4 (nI N) a3).1 0 2 = nI N := by rw [wI_ne (by omega)]; exact r3
            have r5 : (wI (wI (wI (wI (wI (wF M2 0 0 0) 1 (nI N) 0) 2 (nI N) a2) 3 (nI N) a1) 4 (nI N) a3) 5 (nI N) a4).1 0 2 = nI N := by rw [wI_ne (by omega)]; exact r4
            have TT := (((((T1.set (k := 1) (c := N) (v := 0) (by omega) (by omega) (by omega)).set (k := 2) (c := N) (v := a2) (by omega) (by omega) (by omega)).set (k := 3) (c := N) (v := a1) (by omega) (by omega) (by omega)).set (k := 4) (c := N) (v := a3) (by omega) (by omega) (by omega)).set (k := 5) (c := N) (v := a4) (by omega) (by omega) (by omega)).setF (j := 2) (v := nI (N + 1))
            generalize hV : vset (vset (vset (vset (vset (vset V 1 N 0) 2 N a2) 3 N a1) 4 N a3) 5 N a4) 0 2 (nI (N + 1)) = V' at TT
            have v1 : ∀ j, V' 1 j = if j = N then 0 else V 1 j := fun j => by rw [← hV, vset_ne (by omega), vset_ne (by omega), vset_ne (by omega), vset_ne (by omega), vset_ne (by omega), vset_at]
            have v2 : ∀ j, V' 2 j = if j = N then a2 else V 2 j := fun j => by rw [← hV, vset_ne (by omega), vset_ne (by omega), vset_ne (by omega), vset_ne (by omega), vset_at, vset_ne (by omega)]
            have v3 : ∀ j, V' 3 j = if j = N then a1 else V 3 j := fun j => by rw [← hV, vset_ne (by omega), vset_ne (by omega), vset_ne (by omega), vset_at, vset_ne (by omega), vset_ne (by omega)]
            have v4 : ∀ j, V' 4 j = if j = N then a3 else V 4 j := fun j => by rw [← hV, vset_ne (by omega), vset_ne (by omega), vset_at, vset_ne (by omega), vset_ne (by omega), vset_ne (by omega)]
            have v5 : ∀ j, V' 5 j = if j = N then a4 else V 5 j := fun j => by rw [← hV, vset_ne (by omega), vset_at, vset_ne (by omega), vset_ne (by omega), vset_ne (by omega), vset_ne (by omega)]
            have vo : ∀ k, 6 ≤ k → V' k = V k := fun k hk => by rw [← hV, vset_ne (by omega), vset_ne (by omega), vset_ne (by omega), vset_ne (by omega), vset_ne (by omega), vset_ne (by omega)]
            have v0 : V' 0 1 = V 0 1 ∧ V' 0 2 = nI (N + 1) ∧ V' 0 8 = V 0 8 ∧ V' 0 13 = V 0 13 := by rw [← hV]; exact ⟨rfl, rfl, rfl, rfl⟩
            refine ⟨nI N, wF (wI (wI (wI (wI M1 2 (nI N) a1) 3 (nI N) a2) 4 (nI N) a3) 5 (nI N) a4) 1 7 (nI (N + 1)), _, ?_, ?_, n, N + 1, R, B, V', ?_, ?_, TT⟩
            · unfold p_ES_split p_Ln_addSplit
              rw [bnd_e (e_isCol W C), if_pos ca, if_neg one_ne, bnd_e (e_has W C), if_pos c3, if_neg one_ne, bnd_e (e_has W C), if_pos c4, if_neg one_ne, bnd_e (wc _), if_pos cm, if_neg one_ne, bnd_e (e_addNode W C (by omega)), bnd_s]
            · unfold p_Md_split
              rw [nm_s, bnd_e (e_mdCol W T1), if_pos ca, if_neg one_ne, bnd_e (e_mdHas W T1), if_pos c3, if_neg one_ne, bnd_e (e_mdHas W T1), if_pos c4, if_neg one_ne, bnd_e (wm _), if_pos cm, if_neg one_ne, tN, if_neg n30, chk_t i, nb, nm_s, r1, chk_t i, nm_s, r2, chk_t i, nm_s, r3, chk_t i, nm_s, r4, chk_t i, nm_s, r5, nm_s, nI_1, wF_at, nI_pred]
            · refine ⟨⟨v0.1.trans W.1.1, v0.2.1, v0.2.2.1.trans W.1.2.2.1, v0.2.2.2.trans W.1.2.2.2⟩, ⟨hb.1, hb.2.1, by omega, hb.2.2.2.1, hb.2.2.2.2⟩, fun j hj => ?_, ?_, ?_, ?_, ?_, ?_⟩
              · rw [v1, v2, v3, v4, v5]
                by_cases e : j = N
                · rw [if_pos e, if_pos e, if_pos e, if_pos e, if_pos e, e]; exact ⟨by omega, Or.inr ⟨rfl, ca, c3, c4⟩⟩
                · rw [if_neg e, if_neg e, if_neg e, if_neg e, if_neg e]; exact W.2.2.1 j (by omega)
              · rw [vo 6 (by omega)]; exact fun k hk => inb_mono (W.2.2.2.1 k hk) (by omega)
              · rw [vo 7 (by omega)]; exact W.2.2.2.2.1
              · rw [vo 10 (by omega)]; exact W.2.2.2.2.2.1
              · rw [vo 8 (by omega)]; exact W.2.2.2.2.2.2.1
              · rw [vo 9 (by omega)]; exact W.2.2.2.2.2.2.2
            · refine ⟨?_, fun j hj => ?_, ?_, ?_, ?_, ?_, ?_, ?_⟩
              · rw [v0.1, v0.2.1, v0.2.2.1, v0.2.2.2]; exact ⟨C.1.1, C.1.2.1, C.1.2.2.1, rfl, C.1.2.2.2.2.1, C.1.2.2.2.2.2⟩
              · rw [v1, v2, v3, v4, v5, wF_ne (by omega), wF_ne (by omega), wF_ne (by omega), wF_ne (by omega)]
                rw [wI_ne (by omega : 3 ≠ 5), wI_ne (by omega : 3 ≠ 4), wI_at (by omega), wI_ne (by omega : 3 ≠ 2), wI_ne (by omega : 2 ≠ 5), wI_ne (by omega : 2 ≠ 4), wI_ne (by omega : 2 ≠ 3), wI_at (by omega), wI_ne (by omega : 4 ≠ 5), wI_at (by omega), wI_ne (by omega : 4 ≠ 3), wI_ne (by omega : 4 ≠ 2), wI_at (by omega), wI_ne (by omega : 5 ≠ 4), wI_ne (by omega : 5 ≠ 3), wI_ne (by omega : 5 ≠ 2)]
                by_cases e : j = N
                · simp only [e, ↓reduceIte]
                  exact ⟨trivial, fun q => absurd rfl q, fun _ => ⟨trivial, trivial, trivial⟩⟩
                · simp only [e, ↓reduceIte]
                  exact C.2.1 j (by omega)
              · rw [vo 6 (by omega)]; exact C.2.2.1
              · rw [vo 7 (by omega)]; exact C.2.2.2.1
              · rw [vo 10 (by omega)]; exact C.2.2.2.2.1
              · intro r hr k hk
                rw [vo 10 (by omega), wF_ne (by omega), wI_ne (by omega), wI_ne (by omega), wI_ne (by omega), wI_ne (by omega)]
                exact C.2.2.2.2.2.1 r hr k hk
              · rw [vo 8 (by omega)]; exact C.2.2.2.2.2.2.1
              · rw [vo 9 (by omega)]; exact C.2.2.2.2.2.2.2
        · refine bad (-2) ?_ ?_
          · unfold p_ES_split; rw [bnd_e (e_isCol W C), if_pos ca, if_neg one_ne, bnd_e (e_has W C), if_pos c3, if_neg one_ne, bnd_e (e_has W C), if_pos c4, if_neg one_ne, bnd_e (wc _), if_neg cm, if_pos rfl]
          · unfold p_Md_split; rw [nm_s, bnd_e (e_mdCol W T1), if_pos ca, if_neg one_ne, bnd_e (e_mdHas W T1), if_pos c3, if_neg one_ne, bnd_e (e_mdHas W T1), if_pos c4, if_neg one_ne, bnd_e (wm _), if_neg cm, if_pos rfl]
      · refine bad (-1) ?_ ?_
        · unfold p_ES_split; rw [bnd_e (e_isCol W C), if_pos ca, if_neg one_ne, bnd_e (e_has W C), if_pos c3, if_neg one_ne, bnd_e (e_has W C), if_neg c4, if_pos rfl]
        · unfold p_Md_split; rw [nm_s, bnd_e (e_mdCol W T1), if_pos ca, if_neg one_ne, bnd_e (e_mdHas W T1), if_pos c3, if_neg one_ne, bnd_e (e_mdHas W T1), if_neg c4, if_pos rfl]
    · refine bad (-1) ?_ ?_
      · unfold p_ES_split; rw [bnd_e (e_isCol W C), if_pos ca, if_neg one_ne, bnd_e (e_has W C), if_neg c3, if_pos rfl]
      · unfold p_Md_split; rw [nm_s, bnd_e (e_mdCol W T1), if_pos ca, if_neg one_ne, bnd_e (e_mdHas W T1), if_neg c3, if_pos rfl]
  · refine bad (-1) ?_ ?_
    · unfold p_ES_split; rw [bnd_e (e_isCol W C), if_neg ca, if_pos rfl]
    · unfold p_Md_split; rw [nm_s, bnd_e (e_mdCol W T1), if_neg ca, if_pos rfl]
