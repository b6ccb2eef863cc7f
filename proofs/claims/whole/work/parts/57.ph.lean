def XN (M M' : Mem) : Prop := (∀ k, k ≠ 11 → M'.1 k = M.1 k) ∧ M'.2 = M.2
theorem XN.rf {M : Mem} : XN M M := ⟨fun _ _ => rfl, rfl⟩
theorem XN.tr {M M' M'' : Mem} (h : XN M M') (h' : XN M' M'') : XN M M'' := ⟨fun k hk => (h'.1 k hk).trans (h.1 k hk), h'.2.trans h.2⟩
theorem XN.w {M M' : Mem} (h : XN M M') {i v : Int32} : XN M (wI M' 11 i v) := ⟨fun k hk => by rw [wI_ne hk]; exact h.1 k hk, h.2⟩
theorem RT.n {V : Vw} {M M' : Mem} (T : RT V M) (h : XN M M') : RT V M' := T.of (fun k _ hk => h.1 k (by omega)) (fun j _ => by rw [h.1 0 (by omega)])
section PS
variable {n N R B : Nat} {V : Vw} {M : Mem}
theorem e_take (W : WF n N R B V) (T : RT V M) {r : Nat} (hr : r ≤ 5) : ∃ M', p_Md_take (nI r) M = some M' ∧ XN M M' ∧ ∀ c, c < n → M'.1 11 c = itm V r c := by
  have hb := W.2.1
  have hq : ∃ q : Int32 × Mem, itr zfu (fun s => p_Md_take_L2 (nI r) s.1 s.2) ((0 : Int32), M) = some q ∧ XN M q.2 ∧ ∀ c, c < n → q.2.1 11 c = itm V r c := by
    refine itr_run (σ := Int32 × Mem) (ρ := Int32 × Mem) (fun i s => s.1 = nI i ∧ XN M s.2 ∧ ∀ c, c < i → s.2.1 11 c = itm V r c) (fun q => XN M q.2 ∧ ∀ c, c < n → q.2.1 11 c = itm V r c) n (zfu_gt (by omega)) ⟨rfl, XN.rf, fun c h => by omega⟩ (fun i s hi hp => ?_) (fun s hp => ?_)
    · obtain ⟨x, M1⟩ := s
      obtain ⟨rfl, hx, hc⟩ := hp
      dsimp only at hx hc
      have T1 := T.n hx
      have k1 : ¬ M1.1 0 1 ≤ nI i := by rw [T1.2.1, W.1.1]; exact nI_ge (by omega) (by omega)
      have k2 : inb (nI i) 6 = true := inb_nI (by omega) (by omega)
      have t10 : M1.1 10 = V 10 := T1.1 10 (by omega) (by omega)
      refine ⟨.inl (nI (i + 1), wI M1 11 (nI i) (itm V r i)), ?_, rfl, hx.w, fun c hc2 => ?_⟩
      · simp only [p_Md_take_L2, k1, k2, idx6, chk_t (inb_nI (show 6 * r + i < 36 by omega) (by omega)), chk_true, nm_s, t10, nI_clamp (show 6 * r + i < 2 ^ 31 by omega), nI_1, itm, ↓reduceIte]
      · rw [wI_at (by omega)]
        split
        · next e => rw [e]
        · exact hc c (by omega)
    · obtain ⟨x, M1⟩ := s
      obtain ⟨rfl, hx, hc⟩ := hp
      dsimp only at hx hc
      have T1 := T.n hx
      have k1 : M1.1 0 1 ≤ nI n := by rw [T1.2.1, W.1.1]; exact nI_le (by omega) (by omega)
      exact ⟨(nI n, M1), by simp only [p_Md_take_L2, k1, ↓reduceIte], hx, hc⟩
  obtain ⟨q, h1, h2, h3⟩ := hq
  refine ⟨q.2, ?_, h2, h3⟩
  unfold p_Md_take
  rw [bnd_e h1]
theorem e_mdPartial (W : WF n N R B V) (T : RT V M) {c : Nat} {v : Int32} (hc : c < n) (hv : -100 ≤ v.toInt ∧ v.toInt ≤ 100) : ∃ q : Int64 × Int32 × Mem, itr zfu (fun s => p_Md_partial_L52 (nI c) v s.1 s.2.1 s.2.2) ((0 : Int64), (1 : Int32), M) = some q ∧ q.1 = Int64.ofInt (sm (fun r => ans R V (setr V (r + 1) c v)) B) ∧ XN M q.2.2 := by
  have hb := W.2.1
  refine itr_run (σ := Int64 × Int32 × Mem) (ρ := Int64 × Int32 × Mem) (fun i s => s.1 = Int64.ofInt (sm (fun r => ans R V (setr V (r + 1) c v)) i) ∧ s.2.1 = nI (i + 1) ∧ XN M s.2.2) (fun q => q.1 = Int64.ofInt (sm (fun r => ans R V (setr V (r + 1) c v)) B) ∧ XN M q.2.2) B (zfu_gt (by omega)) ⟨rfl, rfl, XN.rf⟩ (fun i s hi hp => ?_) (fun s hp => ?_)
  · obtain ⟨x, y, M1⟩ := s
    obtain ⟨rfl, rfl, hx⟩ := hp
    dsimp only at hx
    have T1 := T.n hx
    have k1 : ¬ M1.1 0 13 < nI (i + 1) := by rw [T1.2.2.2.2, W.1.2.2.2]; exact nI_nlt (by omega) (by omega)
    obtain ⟨M2, e2, x2, c2⟩ := e_take W T1 (r := i + 1) (by omega)
    have k2 : inb (nI c) 6 = true := inb_nI (by omega) (by omega)
    have T2 := T1.n (x2.w (i := nI c) (v := v))
    have e3 := e_answerNow (row := setr V (i + 1) c v) W T2 (fun q hq => by
      rw [wI_at (by omega)]
      unfold setr
      split
      · rfl
      · exact c2 q hq) (fun q hq => setr_bd W (by omega) hv q (by omega))
    refine ⟨.inl (Int64.ofInt (sm (fun r => ans R V (setr V (r + 1) c v)) (i + 1)), nI (i + 1 + 1), wI M2 11 (nI c) v), ?_, rfl, rfl, hx.tr (x2.w)⟩
    simp only [p_Md_partial_L52, k1, bnd_e e2, k2, chk_true, nm_s, bnd_e e3, nI_1, sm, Int64.ofInt_add, ↓reduceIte]
  · obtain ⟨x, y, M1⟩ := s
    obtain ⟨rfl, rfl, hx⟩ := hp
    dsimp only at hx
    have T1 := T.n hx
    have k1 : M1.1 0 13 < nI (B + 1) := by rw [T1.2.2.2.2, W.1.2.2.2]; exact nI_lt (by omega) (by omega)
    exact ⟨(_, nI (B + 1), M1), by simp only [p_Md_partial_L52, k1, ↓reduceIte]; rfl, rfl, hx⟩
theorem e_mdWorth (W : WF n N R B V) (T : RT V M) {c : Nat} (hc : c < n) : ∃ q : Int64 × Int32 × Mem, itr zfu (fun s => p_Md_worth_L40 (nI c) s.1 s.2.1 s.2.2) ((0 : Int64), (1 : Int32), M) = some q ∧ q.1 = Int64.ofInt (chS R B V c) ∧ XN M q.2.2 := by
  have hb := W.2.1
  have inner : ∀ (M : Mem) (f : Nat) (a : Int), RT V M → f < B → (∀ q, q < n → q ≠ c → M.1 11 q = itm V (f + 1) q) → ∃ q : Int64 × Int32 × Mem, itr zfu (fun s => p_Md_worth_L64 (nI c) (Int64.ofInt (ans R V (itm V (f + 1)))) s.1 s.2.1 s.2.2) (Int64.ofInt a, (1 : Int32), M) = some q ∧ q.1 = Int64.ofInt (a + sm (fun s => (ans R V (setr V (f + 1) c (itm V (s + 1) c)) - ans R V (itm V (f + 1))) * (ans R V (setr V (f + 1) c (itm V (s + 1) c)) - ans R V (itm V (f + 1)))) B) ∧ XN M q.2.2 := fun M f a T hf hnow => by
    refine Exists.imp (fun q h => ⟨h.1, h.2.1, h.2.2.1⟩) (itr_run (σ := Int64 × Int32 × Mem) (ρ := Int64 × Int32 × Mem) (fun i s => s.1 = Int64.ofInt (a + sm (fun s => (ans R V (setr V (f + 1) c (itm V (s + 1) c)) - ans R V (itm V (f + 1))) * (ans R V (setr V (f + 1) c (itm V (s + 1) c)) - ans R V (itm V (f + 1)))) i) ∧ s.2.1 = nI (i + 1) ∧ XN M s.2.2 ∧ ∀ q, q < n → q ≠ c → s.2.2.1 11 q = itm V (f + 1) q) (fun q => q.1 = Int64.ofInt (a + sm (fun s => (ans R V (setr V (f + 1) c (itm V (s + 1) c)) - ans R V (itm V (f + 1))) * (ans R V (setr V (f + 1) c (itm V (s + 1) c)) - ans R V (itm V (f + 1)))) B) ∧ XN M q.2.2 ∧ True) B (zfu_gt (by omega)) ⟨by simp [sm], rfl, XN.rf, hnow⟩ (fun i s hi hp => ?_) (fun s hp => ?_))
    · obtain ⟨x, y, M1⟩ := s
      obtain ⟨rfl, rfl, hx, hn1⟩ := hp
      dsimp only at hx hn1
      have T1 := T.n hx
      have k1 : ¬ M1.1 0 13 < nI (i + 1) := by rw [T1.2.2.2.2, W.1.2.2.2]; exact nI_nlt (by omega) (by omega)
      have k2 : inb (nI c) 6 = true := inb_nI (by omega) (by omega)
      have t10 : M1.1 10 = V 10 := T1.1 10 (by omega) (by omega)
      have T2 := T1.n (XN.rf.w (i := nI c) (v := itm V (i + 1) c))
      have e3 := e_answerNow (row := setr V (f + 1) c (itm V (i + 1) c)) W T2 (fun q hq => by
        rw [wI_at (by omega)]
        unfold setr
        split
        · rfl
        · next e => exact hn1 q hq e) (fun q hq => setr_bd W (by omega) (itm_bd W (by omega) c (by omega)) q (by omega))
      refine ⟨.inl (Int64.ofInt (a + sm (fun s => (ans R V (setr V (f + 1) c (itm V (s + 1) c)) - ans R V (itm V (f + 1))) * (ans R V (setr V (f + 1) c (itm V (s + 1) c)) - ans R V (itm V (f + 1)))) (i + 1)), nI (i + 1 + 1), wI M1 11 (nI c) (itm V (i + 1) c)), ?_, rfl, rfl, hx.w, fun q hq hqc => ?_⟩
      · have ei : M1.1 10 (nI (6 * (i + 1) + c)).toNatClampNeg = itm V (i + 1) c := by rw [nI_clamp (by omega), t10]; rfl
        simp only [p_Md_worth_L64, k1, idx6, chk_t (inb_nI (show 6 * (i + 1) + c < 36 by omega) (by omega)), k2, chk_true, nm_s, ei, bnd_e e3, nI_1, sm, ← Int64.ofInt_sub, ← Int64.ofInt_mul, ← Int64.ofInt_add, Int.add_assoc, ↓reduceIte]
      · dsimp only
        rw [wI_at (by omega), if_neg hqc]; exact hn1 q hq hqc
    · obtain ⟨x, y, M1⟩ := s
      obtain ⟨rfl, rfl, hx, hn1⟩ := hp
      dsimp only at hx hn1
      have T1 := T.n hx
      have k1 : M1.1 0 13 < nI (B + 1) := by rw [T1.2.2.2.2, W.1.2.2.2]; exact nI_lt (by omega) (by omega)
      exact ⟨(_, nI (B + 1), M1), by simp only [p_Md_worth_L64, k1, ↓reduceIte]; rfl, rfl, hx, trivial⟩
  refine itr_run (σ := Int64 × Int32 × Mem) (ρ := Int64 × Int32 × Mem) (fun i s => s.1 = Int64.ofInt (sm (fun f => sm (fun s => (ans R V (setr V (f + 1) c (itm V (s + 1) c)) - ans R V (itm V (f + 1))) * (ans R V (setr V (f + 1) c (itm V (s + 1) c)) - ans R V (itm V (f + 1)))) B) i) ∧ s.2.1 = nI (i + 1) ∧ XN M s.2.2) (fun q => q.1 = Int64.ofInt (chS R B V c) ∧ XN M q.2.2) B (zfu_gt (by omega)) ⟨rfl, rfl, XN.rf⟩ (fun i s hi hp => ?_) (fun s hp => ?_)
  · obtain ⟨x, y, M1⟩ := s
    obtain ⟨rfl, rfl, hx⟩ := hp
    dsimp only at hx
    have T1 := T.n hx
    have k1 : ¬ M1.1 0 13 < nI (i + 1) := by rw [T1.2.2.2.2, W.1.2.2.2]; exact nI_nlt (by omega) (by omega)
    obtain ⟨M2, e2, x2, c2⟩ := e_take W T1 (r := i + 1) (by omega)
    have T2 := T1.n x2
    have e3 := e_answerNow (row := itm V (i + 1)) W T2 c2 (fun q hq => itm_bd W (by omega) q (by omega))
    obtain ⟨q, e4, q1, x4⟩ := inner M2 i (sm (fun f => sm (fun s => (ans R V (setr V (f + 1) c (itm V (s + 1) c)) - ans R V (itm V (f + 1))) * (ans R V (setr V (f + 1) c (itm V (s + 1) c)) - ans R V (itm V (f + 1)))) B) i) T2 hi (fun q hq _ => c2 q hq)
    refine ⟨.inl (q.1, nI (i + 1 + 1), q.2.2), ?_, q1, rfl, (hx.tr x2).tr x4⟩
    simp only [p_Md_worth_L40, k1, bnd_e e2, bnd_e e3, bnd_e e4, nI_1, ↓reduceIte]
  · obtain ⟨x, y, M1⟩ := s
    obtain ⟨rfl, rfl, hx⟩ := hp
    dsimp only at hx
    have T1 := T.n hx
    have k1 : M1.1 0 13 < nI (B + 1) := by rw [T1.2.2.2.2, W.1.2.2.2]; exact nI_lt (by omega) (by omega)
    exact ⟨(_, nI (B + 1), M1), by simp only [p_Md_worth_L40, k1, ↓reduceIte]; rfl, rfl, hx⟩
end PS
