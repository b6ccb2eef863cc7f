theorem g_background : Gd_background Inv := by
  intro M1 M2 ⟨n, N, R, B, V, W, C, T⟩
  have hb := W.2.1
  have T1 : RT V (wF M2 0 0 0) := T.sF (Or.inl rfl)
  have hc : M1.1 9 2 = nI B := C.1.2.2.2.2.2.trans W.1.2.2.2
  have ht : (wF M2 0 0 0).1 0 13 = nI B := T1.2.2.2.2.trans W.1.2.2.2
  by_cases c5 : B = 5
  · refine ⟨-4, M1, wF M2 0 0 0, ?_, ?_, n, N, R, B, V, W, C, T1⟩
    · unfold p_ES_background p_Rw_addRow
      rw [hc, c5, if_neg (by decide), bnd_s]
    · unfold p_Md_background
      rw [nm_s, ht, c5, if_pos (by decide)]
  · have l5 : nI B < 5 := nI_lt (b := 5) (by omega) (by omega)
    have n5 : ¬ nI B = 5 := fun e => c5 ((nI_eq (b := 5) (by omega) (by omega)).mp e)
    have i5 : inb (nI B) 5 = true := inb_nI (by omega) (by omega)
    obtain ⟨Mc, e1, x1, z1⟩ := e_empty (a := 12 + B) (M := M1) (al12 (by omega))
    have hc1 : Mc.1 9 2 = nI B := by rw [x1.2 9 (by omega)]; exact hc
    have h13 : (wF (wF M2 0 0 0) 0 13 (nI (B + 1))).1 0 13 = nI (B + 1) := wF_at
    have hq : ∃ q : Int32 × Mem, itr zfu (fun s => p_Md_background_L28 s.1 s.2) ((0 : Int32), wF (wF M2 0 0 0) 0 13 (nI (B + 1))) = some q ∧ Xk 10 (wF (wF M2 0 0 0) 0 13 (nI (B + 1))) q.2 ∧ ∀ j, q.2.1 10 j = if 6 * (B + 1) ≤ j ∧ j < 6 * (B + 1) + 6 then 0 else V 10 j := by
      refine itr_run (σ := Int32 × Mem) (ρ := Int32 × Mem) (fun i s => s.1 = nI i ∧ i ≤ 6 ∧ Xk 10 (wF (wF M2 0 0 0) 0 13 (nI (B + 1))) s.2 ∧ ∀ j, s.2.1 10 j = if 6 * (B + 1) ≤ j ∧ j < 6 * (B + 1) + i then 0 else V 10 j) (fun q => Xk 10 (wF (wF M2 0 0 0) 0 13 (nI (B + 1))) q.2 ∧ ∀ j, q.2.1 10 j = if 6 * (B + 1) ≤ j ∧ j < 6 * (B + 1) + 6 then 0 else V 10 j) 6 (zfu_gt (by omega)) ⟨rfl, by omega, Xk.rf, fun j => ?_⟩ (fun i s hi hp => ?_) (fun s hp => ?_)
      · dsimp only
        rw [if_neg (by omega), wF_ne (by omega), T1.1 10 (by omega) (by omega)]
      · obtain ⟨x, M'⟩ := s
        obtain ⟨rfl, hl, hx, h1⟩ := hp
        dsimp only at hx h1
        have k1 : ¬ (6 : Int32) ≤ nI i := nI_ge (b := 6) (by omega) (by omega)
        have k2 : M'.1 0 13 = nI (B + 1) := by rw [hx.2 0 (by omega)]; exact h13
        refine ⟨.inl (nI (i + 1), wI M' 10 (nI (6 * (B + 1) + i)) 0), ?_, rfl, by omega, hx.w, fun j => ?_⟩
        · simp only [p_Md_background_L28, k1, k2, idx6, chk_t (inb_nI (show 6 * (B + 1) + i < 36 by omega) (by omega)), nm_s, nI_1, ↓reduceIte]
        · dsimp only
          rw [wI_at (by omega), h1 j]
          by_cases e : j = 6 * (B + 1) + i
          · rw [if_pos e, if_pos (by omega)]
          · rw [if_neg e]
            by_cases e2 : 6 * (B + 1) ≤ j ∧ j < 6 * (B + 1) + i
            · rw [if_pos e2, if_pos (by omega)]
            · rw [if_neg e2, if_neg (by omega)]
      · obtain ⟨x, M'⟩ := s
        obtain ⟨rfl, hl, hx, h1⟩ := hp
        exact ⟨(nI 6, M'), by simp only [p_Md_background_L28, show (6 : Int32) ≤ nI 6 by decide, ↓reduceIte], hx, h1⟩
    obtain ⟨q, q1, q2, q3⟩ := hq
    have qk : ∀ k, 1 ≤ k → k ≤ 9 → q.2.1 k = V k := fun k a b => by rw [q2.2 k (by omega), wF_ne (by omega)]; exact T1.1 k a (by omega)
    have q0 : q.2.1 0 13 = nI (B + 1) := by rw [q2.2 0 (by omega)]; exact h13
    have q0' : ∀ j, j ≠ 13 → q.2.1 0 j = (wF M2 0 0 0).1 0 j := fun j hj => by rw [q2.2 0 (by omega), wF_o hj]
    refine ⟨nI B, wF Mc 9 2 (nI (B + 1)), q.2, ?_, ?_, n, N, R, B + 1, q.2.1, ?_, ?_, ⟨fun _ _ _ => rfl, rfl, rfl, rfl, rfl⟩⟩
    · unfold p_ES_background p_Rw_addRow
      rw [hc, if_pos l5, chk_t i5, nI_clamp (by omega), bnd_e e1, hc1, nm_s, nI_1, wF_at, nI_pred, bnd_s]
    · unfold p_Md_background
      rw [nm_s, ht, if_neg n5, nm_s, nI_1, bnd_e q1, q0, nI_pred]
    · refine ⟨⟨by rw [q0' 1 (by omega), T1.2.1]; exact W.1.1, by rw [q0' 2 (by omega), T1.2.2.1]; exact W.1.2.1, by rw [q0' 8 (by omega), T1.2.2.2.1]; exact W.1.2.2.1, q0⟩, ⟨hb.1, hb.2.1, hb.2.2.1, hb.2.2.2.1, by omega⟩, ?_, ?_, ?_, fun j hj => ?_, ?_, ?_⟩
      · rw [qk 1 (by omega) (by omega), qk 2 (by omega) (by omega), qk 3 (by omega) (by omega), qk 4 (by omega) (by omega), qk 5 (by omega) (by omega)]; exact W.2.2.1
      · rw [qk 6 (by omega) (by omega)]; exact W.2.2.2.1
      · rw [qk 7 (by omega) (by omega)]; exact W.2.2.2.2.1
      · rw [q3 j]
        split
        · decide
        · exact W.2.2.2.2.2.1 j hj
      · rw [qk 8 (by omega) (by omega)]; exact W.2.2.2.2.2.2.1
      · rw [qk 9 (by omega) (by omega)]; exact W.2.2.2.2.2.2.2
    · have mk : ∀ k, k ≠ 9 → k ≠ 12 + B → (wF Mc 9 2 (nI (B + 1))).1 k = M1.1 k := fun k a b => by rw [wF_ne a, x1.2 k b]
      refine ⟨?_, fun j hj => ?_, ?_, ?_, fun j hj => ?_, fun r hr j hj => ?_, ?_, ?_⟩
      · rw [mk 0 (by omega) (by omega), mk 17 (by omega) (by omega), mk 24 (by omega) (by omega), mk 1 (by omega) (by omega), q0' 1 (by omega), T1.2.1, q0' 2 (by omega), T1.2.2.1, q0' 8 (by omega), T1.2.2.2.1, q0]
        exact ⟨C.1.1, C.1.2.1, C.1.2.2.1, C.1.2.2.2.1, C.1.2.2.2.2.1, wF_at⟩
      · rw [mk 2 (by omega) (by omega), mk 3 (by omega) (by omega), mk 4 (by omega) (by omega), mk 5 (by omega) (by omega), qk 1 (by omega) (by omega), qk 2 (by omega) (by omega), qk 3 (by omega) (by omega), qk 4 (by omega) (by omega), qk 5 (by omega) (by omega)]; exact C.2.1 j hj
      · rw [mk 7 (by omega) (by omega), qk 6 (by omega) (by omega)]; exact C.2.2.1
      · rw [mk 8 (by omega) (by omega), qk 7 (by omega) (by omega)]; exact C.2.2.2.1
      · rw [mk 10 (by omega) (by omega), q3 j, if_neg (by omega)]; exact C.2.2.2.2.1 j hj
      · by_cases e : r = B
        · rw [e, wF_ne (by omega), z1 j hj, q3, if_pos (by omega)]
        · rw [mk (12 + r) (by omega) (by omega), q3, if_neg (by omega)]; exact C.2.2.2.2.2.1 r (by omega) j hj
      · rw [mk 18 (by omega) (by omega), qk 8 (by omega) (by omega)]; exact C.2.2.2.2.2.2.1
      · rw [mk 25 (by omega) (by omega), qk 9 (by omega) (by omega)]; exact C.2.2.2.2.2.2.2
