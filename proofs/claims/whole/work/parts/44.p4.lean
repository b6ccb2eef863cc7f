section PS
variable {n N R B : Nat} {V : Vw} {M : Mem}
theorem e_sa31 (W : WF n N R B V) (T : RT V M) {set r : Nat} (hs : set < 64) (hr : r ≤ 5) : ∃ q : Int32 × Mem, itr zfu (fun s => p_Md_sumAll_L31 (nI r) (nI set) s.1 s.2) ((0 : Int32), M) = some q ∧ (XT M q.2 ∧ q.2.2 = M.2) ∧ ∀ c, c < n → q.2.1 11 c = mixr V set r c := by
  have hb := W.2.1
  refine itr_run (f := fun s => p_Md_sumAll_L31 (nI r) (nI set) s.1 s.2) (fun i s => s.1 = nI i ∧ (XT M s.2 ∧ s.2.2 = M.2) ∧ ∀ c, c < i → s.2.1 11 c = mixr V set r c) (fun q => (XT M q.2 ∧ q.2.2 = M.2) ∧ ∀ c, c < n → q.2.1 11 c = mixr V set r c) n (n := zfu) (s := ((0 : Int32), M)) (zfu_gt (by omega)) ⟨rfl, ⟨XT.rf, rfl⟩, fun c h => by omega⟩ (fun i s hi hp => ?_) (fun s hp => ?_)
  · obtain ⟨x, M1⟩ := s
    obtain ⟨rfl, ⟨hx, hx2⟩, hc⟩ := hp
    dsimp only at hx hx2 hc
    have T1 := T.x hx
    have k1 : ¬ M1.1 0 1 ≤ nI i := by rw [T1.2.1, W.1.1]; exact nI_ge (by omega) (by omega)
    have k2 : inb (nI i) 6 = true := inb_nI (by omega) (by omega)
    have t10 : M1.1 10 = V 10 := T1.1 10 (by omega) (by omega)
    have z0 : (6 : Int32) * (0 : Int32) + nI i = nI (6 * 0 + i) := idx6 0 i
    by_cases cb : set.testBit i = true
    · have cb' := (bit_t set hs i (by omega)).mpr cb
      refine ⟨.inl (nI (i + 1), wI M1 11 (nI i) (itm V 0 i)), ?_, rfl, ⟨hx.w, hx2⟩, fun c hc2 => ?_⟩
      · simp only [p_Md_sumAll_L31, k1, k2, cb', z0, chk_t (inb_nI (show 6 * 0 + i < 36 by omega) (by omega)), chk_true, nm_s, t10, nI_clamp (show 6 * 0 + i < 2 ^ 31 by omega), nI_1, itm, ↓reduceIte]
      · rw [wI_at (by omega)]
        split
        · next e => subst e; simp only [mixr, cb, ↓reduceIte]
        · exact hc c (by omega)
    · have cb' := mt (bit_t set hs i (by omega)).mp cb
      refine ⟨.inl (nI (i + 1), wI M1 11 (nI i) (itm V r i)), ?_, rfl, ⟨hx.w, hx2⟩, fun c hc2 => ?_⟩
      · simp only [p_Md_sumAll_L31, k1, k2, cb', idx6, chk_t (inb_nI (show 6 * r + i < 36 by omega) (by omega)), chk_true, nm_s, t10, nI_clamp (show 6 * r + i < 2 ^ 31 by omega), nI_1, itm, ↓reduceIte]
      · rw [wI_at (by omega)]
        split
        · next e => subst e; simp only [mixr, cb, ↓reduceIte, Bool.false_eq_true]
        · exact hc c (by omega)
  · obtain ⟨x, M1⟩ := s
    obtain ⟨rfl, ⟨hx, hx2⟩, hc⟩ := hp
    dsimp only at hx hx2 hc
    have T1 := T.x hx
    have k1 : M1.1 0 1 ≤ nI n := by rw [T1.2.1, W.1.1]; exact nI_le (by omega) (by omega)
    exact ⟨(nI n, M1), by simp only [p_Md_sumAll_L31, k1, ↓reduceIte], ⟨hx, hx2⟩, hc⟩
theorem e_sa21 (W : WF n N R B V) (T : RT V M) {set : Nat} (hs : set < 64) : ∃ q : Int32 × Mem, itr zfu (fun s => p_Md_sumAll_L21 (nI set) s.1 s.2) ((1 : Int32), wL M 12 (nI set) 0) = some q ∧ XT M q.2 ∧ q.2.2 12 set = Int64.ofInt (tot R B V set) ∧ ∀ j, j ≠ set → q.2.2 12 j = M.2 12 j := by
  have hb := W.2.1
  refine itr_run (f := fun s => p_Md_sumAll_L21 (nI set) s.1 s.2) (fun i s => s.1 = nI (i + 1) ∧ XT M s.2 ∧ s.2.2 12 set = Int64.ofInt (sm (fun r => ans R V (mixr V set (r + 1))) i) ∧ ∀ j, j ≠ set → s.2.2 12 j = M.2 12 j) (fun q => XT M q.2 ∧ q.2.2 12 set = Int64.ofInt (tot R B V set) ∧ ∀ j, j ≠ set → q.2.2 12 j = M.2 12 j) B (n := zfu) (zfu_gt (by omega)) ⟨rfl, XT.rf.l, ?_, fun j hj => ?_⟩ (fun i s hi hp => ?_) (fun s hp => ?_)
  · dsimp only; rw [wL_at (by omega), if_pos rfl]; rfl
  · dsimp only; rw [wL_at (by omega), if_neg hj]
  · obtain ⟨x, M1⟩ := s
    obtain ⟨rfl, hx, hs1, hs2⟩ := hp
    dsimp only at hx hs1 hs2
    have T1 := T.x hx
    have k1 : ¬ M1.1 0 13 < nI (i + 1) := by rw [T1.2.2.2.2, W.1.2.2.2]; exact nI_nlt (by omega) (by omega)
    obtain ⟨q, e1, ⟨x1, x1'⟩, c1⟩ := e_sa31 W T1 hs (show i + 1 ≤ 5 by omega)
    have T2 := T1.x x1
    have e2 := e_answerNow (row := mixr V set (i + 1)) W T2 c1 (fun c hc => mixr_bd W (by omega) c (by omega))
    have k2 : inb (nI set) 64 = true := inb_nI hs (by omega)
    refine ⟨.inl (nI (i + 1 + 1), wL q.2 12 (nI set) (q.2.2 12 set + Int64.ofInt (ans R V (mixr V set (i + 1))))), ?_, rfl, (hx.tr x1).l, ?_, fun j hj => ?_⟩
    · simp only [p_Md_sumAll_L21, k1, bnd_e e1, k2, chk_true, bnd_e e2, nm_s, nI_clamp (show set < 2 ^ 31 by omega), nI_1, ↓reduceIte]
    · rw [wL_at (by omega), if_pos rfl, x1', hs1, ← Int64.ofInt_add]; rfl
    · rw [wL_at (by omega), if_neg hj, x1']; exact hs2 j hj
  · obtain ⟨x, M1⟩ := s
    obtain ⟨rfl, hx, hs1, hs2⟩ := hp
    dsimp only at hx hs1 hs2
    have T1 := T.x hx
    have k1 : M1.1 0 13 < nI (B + 1) := by rw [T1.2.2.2.2, W.1.2.2.2]; exact nI_lt (by omega) (by omega)
    exact ⟨(nI (B + 1), M1), by simp only [p_Md_sumAll_L21, k1, ↓reduceIte], hx, hs1, hs2⟩
theorem e_sumAll (W : WF n N R B V) (T : RT V M) : ∃ M', p_Md_sumAll M = some M' ∧ XT M M' ∧ ∀ j, j < 2 ^ n → M'.2 12 j = Int64.ofInt (tot R B V j) := by
  have hb := W.2.1
  have hp6 := pw6 hb.2.1
  have hq : ∃ q : Int32 × Mem, itr zfu (fun s => p_Md_sumAll_L2 s.1 s.2) ((0 : Int32), M) = some q ∧ XT M q.2 ∧ ∀ j, j < 2 ^ n → q.2.2 12 j = Int64.ofInt (tot R B V j) := by
    refine itr_run (f := fun s => p_Md_sumAll_L2 s.1 s.2) (fun i s => s.1 = nI i ∧ XT M s.2 ∧ ∀ j, j < i → s.2.2 12 j = Int64.ofInt (tot R B V j)) (fun q => XT M q.2 ∧ ∀ j, j < 2 ^ n → q.2.2 12 j = Int64.ofInt (tot R B V j)) (2 ^ n) (n := zfu) (zfu_gt (by omega)) ⟨rfl, XT.rf, fun j h => by omega⟩ (fun i s hi hp => ?_) (fun s hp => ?_)
    · obtain ⟨x, M1⟩ := s
      obtain ⟨rfl, hx, hs1⟩ := hp
      dsimp only at hx hs1
      have T1 := T.x hx
      have k1 : ¬ (1 : Int32) <<< (M1.1 0 1 &&& 31) ≤ nI i := by rw [T1.2.1, W.1.1, shl_t n (by omega)]; exact nI_ge (by omega) (by omega)
      have k2 : inb (nI i) 64 = true := inb_nI (by omega) (by omega)
      obtain ⟨q, e1, x1, s1, s2⟩ := e_sa21 W T1 (show i < 64 by omega)
      refine ⟨.inl (nI (i + 1), q.2), ?_, rfl, hx.tr x1, fun j hj => ?_⟩
      · simp only [p_Md_sumAll_L2, k1, k2, chk_true, nm_s, bnd_e e1, nI_1, ↓reduceIte]
      · by_cases e : j = i
        · rw [e]; exact s1
        · rw [s2 j e]; exact hs1 j (by omega)
    · obtain ⟨x, M1⟩ := s
      obtain ⟨rfl, hx, hs1⟩ := hp
      dsimp only at hx hs1
      have T1 := T.x hx
      have k1 : (1 : Int32) <<< (M1.1 0 1 &&& 31) ≤ nI (2 ^ n) := by rw [T1.2.1, W.1.1, shl_t n (by omega)]; exact nI_le (by omega) (by omega)
      exact ⟨(nI (2 ^ n), M1), by simp only [p_Md_sumAll_L2, k1, ↓reduceIte], hx, hs1⟩
  obtain ⟨q, h1, h2, h3⟩ := hq
  refine ⟨q.2, ?_, h2, h3⟩
  unfold p_Md_sumAll
  rw [bnd_e h1]
end PS
