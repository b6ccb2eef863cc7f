/-- a loop that fills one array's first cells -/
def Xk (k : Nat) (M M' : Mem) : Prop := M'.2 = M.2 ∧ ∀ q, q ≠ k → M'.1 q = M.1 q
theorem Xk.rf {k : Nat} {M : Mem} : Xk k M M := ⟨rfl, fun _ _ => rfl⟩
theorem Xk.w {k : Nat} {M M' : Mem} (h : Xk k M M') {i v : Int32} : Xk k M (wI M' k i v) := ⟨h.1, fun q hq => by rw [wI_ne hq]; exact h.2 q hq⟩
theorem fill_run {k L : Nat} {f : Int32 → Mem → Option ((Int32 × Mem) ⊕ (Int32 × Mem))} {g : Nat → Int32} {M : Mem} (hL : L < 1000) (hs : ∀ (i : Nat) (M' : Mem), i < L → f (nI i) M' = some (.inl (nI (i + 1), wI M' k (nI i) (g i)))) (he : ∀ M' : Mem, f (nI L) M' = some (.inr (nI L, M'))) :
    ∃ q : Int32 × Mem, itr zfu (fun s => f s.1 s.2) ((0 : Int32), M) = some q ∧ Xk k M q.2 ∧ (∀ j, j < L → q.2.1 k j = g j) ∧ ∀ j, L ≤ j → q.2.1 k j = M.1 k j := by
  refine itr_run (σ := Int32 × Mem) (ρ := Int32 × Mem) (fun i s => s.1 = nI i ∧ i ≤ L ∧ Xk k M s.2 ∧ (∀ j, j < i → s.2.1 k j = g j) ∧ ∀ j, L ≤ j → s.2.1 k j = M.1 k j) (fun q => Xk k M q.2 ∧ (∀ j, j < L → q.2.1 k j = g j) ∧ ∀ j, L ≤ j → q.2.1 k j = M.1 k j) L (zfu_gt (by omega)) ⟨rfl, by omega, Xk.rf, fun j h => by omega, fun _ _ => rfl⟩ (fun i s hi hp => ?_) (fun s hp => ?_)
  · obtain ⟨x, M1⟩ := s
    obtain ⟨rfl, hl, hx, h1, h2⟩ := hp
    dsimp only at hx h1 h2
    refine ⟨.inl (nI (i + 1), wI M1 k (nI i) (g i)), hs i M1 hi, rfl, by omega, hx.w, fun j hj => ?_, fun j hj => ?_⟩
    · dsimp only
      rw [wI_at (by omega)]
      split
      · next e => rw [e]
      · exact h1 j (by omega)
    · dsimp only
      rw [wI_at (by omega), if_neg (by omega)]; exact h2 j hj
  · obtain ⟨x, M1⟩ := s
    obtain ⟨rfl, hl, hx, h1, h2⟩ := hp
    exact ⟨(nI L, M1), he M1, hx, h1, h2⟩
theorem e_empty {a : Nat} {M : Mem} (ha : alenC a = 6) : ∃ M', p_Rw_empty a M = some M' ∧ Xk a M M' ∧ ∀ j, j < 6 → M'.1 a j = 0 := by
  obtain ⟨q, h1, h2, h3, -⟩ := fill_run (k := a) (L := 6) (f := p_Rw_empty_L2 a) (g := fun _ => 0) (M := M) (by omega) (fun i M' hi => by
    have k1 : ¬ nI 6 ≤ nI i := nI_ge (by omega) (by omega)
    have k2 : inb (nI i) 6 = true := inb_nI (by omega) (by omega)
    simp only [p_Rw_empty_L2, ha, show decide (0 < 6) = true by decide, chk_true, k1, k2, nm_s, nI_1, ↓reduceIte]) (fun M' => by
    have k1 : nI 6 ≤ nI 6 := by decide
    simp only [p_Rw_empty_L2, ha, show decide (0 < 6) = true by decide, chk_true, k1, ↓reduceIte])
  refine ⟨q.2, ?_, h2, h3⟩
  unfold p_Rw_empty
  rw [bnd_e h1]
