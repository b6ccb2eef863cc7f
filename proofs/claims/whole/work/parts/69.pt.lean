theorem e_clear {M : Mem} : ∃ M', p_ES_clear M = some (M.1 1 7, M') ∧ (M'.1 0 0 = M.1 0 0 ∧ M'.1 17 0 = M.1 17 0 ∧ M'.1 24 0 = M.1 24 0 ∧ M'.1 1 7 = 0 ∧ M'.1 1 8 = 0 ∧ M'.1 9 2 = 0) ∧ ∀ j, j < 6 → M'.1 8 j = 0 ∧ M'.1 10 j = 0 ∧ M'.1 18 j = nI j ∧ M'.1 25 j = 0 := by
  obtain ⟨q, q1, q2, q3, -⟩ := fill_run (k := 8) (L := 6) (f := p_Ln_forget_L17) (g := fun _ => 0) (M := wF (wF M 1 7 0) 1 8 0) (by omega) (fun i M' hi => by
    have k1 : ¬ (6 : Int32) ≤ nI i := nI_ge (b := 6) (by omega) (by omega)
    have k2 : inb (nI i) 6 = true := inb_nI (by omega) (by omega)
    simp only [p_Ln_forget_L17, chk_true, k1, k2, nm_s, nI_1, ↓reduceIte]) (fun M' => by
    simp only [p_Ln_forget_L17, show (6 : Int32) ≤ nI 6 by decide, ↓reduceIte])
  obtain ⟨M3, e3, x3, z3⟩ := e_empty (a := 10) (M := q.2) rfl
  obtain ⟨r, r1, r2, r3, -⟩ := fill_run (k := 18) (L := 6) (f := p_Gr_standAlone_L2) (g := fun i => nI i) (M := wF M3 9 2 0) (by omega) (fun i M' hi => by
    have k1 : ¬ (6 : Int32) ≤ nI i := nI_ge (b := 6) (by omega) (by omega)
    have k2 : inb (nI i) 6 = true := inb_nI (by omega) (by omega)
    simp only [p_Gr_standAlone_L2, chk_true, k1, k2, nm_s, nI_1, ↓reduceIte]) (fun M' => by
    simp only [p_Gr_standAlone_L2, show (6 : Int32) ≤ nI 6 by decide, ↓reduceIte])
  obtain ⟨u, u1, u2, u3, -⟩ := fill_run (k := 25) (L := 6) (f := p_Se_unbarAll_L2) (g := fun _ => 0) (M := r.2) (by omega) (fun i M' hi => by
    have k1 : ¬ (6 : Int32) ≤ nI i := nI_ge (b := 6) (by omega) (by omega)
    have k2 : inb (nI i) 6 = true := inb_nI (by omega) (by omega)
    simp only [p_Se_unbarAll_L2, chk_true, k1, k2, nm_s, show vp_nar .boolean (0 : Int32) = 0 by decide, nI_1, ↓reduceIte]) (fun M' => by
    simp only [p_Se_unbarAll_L2, show (6 : Int32) ≤ nI 6 by decide, ↓reduceIte])
  have all : ∀ k, k ≠ 25 → k ≠ 18 → k ≠ 9 → k ≠ 10 → k ≠ 8 → u.2.1 k = (wF (wF M 1 7 0) 1 8 0).1 k := fun k a b c d e => by
    rw [u2.2 k a, r2.2 k b, wF_ne c, x3.2 k d, q2.2 k e]
  refine ⟨u.2, ?_, ⟨?_, ?_, ?_, ?_, ?_, ?_⟩, fun j hj => ⟨?_, ?_, ?_, u3 j hj⟩⟩
  · unfold p_ES_clear p_Ln_forget p_Rw_forget p_Gr_standAlone p_Se_unbarAll
    rw [nm_s, nm_s, bnd_e q1, bnd_s]
    dsimp only
    rw [bnd_e e3, nm_s, bnd_s, bnd_e r1, bnd_s, bnd_e u1, bnd_s]
  · rw [all 0 (by omega) (by omega) (by omega) (by omega) (by omega), wF_ne (by omega), wF_ne (by omega)]
  · rw [all 17 (by omega) (by omega) (by omega) (by omega) (by omega), wF_ne (by omega), wF_ne (by omega)]
  · rw [all 24 (by omega) (by omega) (by omega) (by omega) (by omega), wF_ne (by omega), wF_ne (by omega)]
  · rw [all 1 (by omega) (by omega) (by omega) (by omega) (by omega), wF_o (by omega), wF_at]
  · rw [all 1 (by omega) (by omega) (by omega) (by omega) (by omega), wF_at]
  · rw [u2.2 9 (by omega), r2.2 9 (by omega), wF_at]
  · rw [u2.2 8 (by omega), r2.2 8 (by omega), wF_ne (by omega), x3.2 8 (by omega)]; exact q3 j hj
  · rw [u2.2 10 (by omega), r2.2 10 (by omega), wF_ne (by omega)]; exact z3 j hj
  · rw [u2.2 18 (by omega)]; exact r3 j hj
theorem g_clear : Gd_clear Inv := by
  intro M1 M2 ⟨n, N, R, B, V, W, C, T⟩
  have hb := W.2.1
  obtain ⟨Mc, ec, ac, hc⟩ := e_clear (M := M1)
  obtain ⟨Mt, et, t0, t1, t2, t3, t4, t5, t6⟩ := e_mdClear (M := M2)
  have en : M1.1 1 7 = M2.1 0 2 := C.1.2.2.2.1.trans T.2.2.1.symm
  refine ⟨M2.1 0 2, Mc, Mt, by rw [ec, en], et, n, 0, 0, 0, Mt.1, ?_, ?_, RTself⟩
  · exact WF0 (by rw [t1, T.2.1]; exact W.1.1) t2 t3 t4 ⟨hb.1, hb.2.1⟩ t5 (fun j h1 h2 => by rw [t6 j h1, T.1 10 (by omega) (by omega)]; exact W.2.2.2.2.2.1 j h2)
  · refine RC0 ?_ t5 hc
    rw [t1, t2, t3, t4, T.2.1]
    exact ⟨ac.1.trans C.1.1, ac.2.1.trans C.1.2.1, ac.2.2.1.trans C.1.2.2.1, ac.2.2.2.1, ac.2.2.2.2.1, ac.2.2.2.2.2⟩
