theorem WF0 {n : Nat} {V : Vw} (h1 : V 0 1 = nI n) (h2 : V 0 2 = 0) (h3 : V 0 8 = 0) (h4 : V 0 13 = 0) (hn : 1 ≤ n ∧ n ≤ 6) (h5 : ∀ j, j < 6 → V 7 j = 0 ∧ V 8 j = nI j ∧ V 9 j = 0 ∧ V 10 j = 0) (h6 : ∀ j, 6 ≤ j → j < 36 → -100 ≤ (V 10 j).toInt ∧ (V 10 j).toInt ≤ 100) : WF n 0 0 0 V := by
  refine ⟨⟨h1, h2, h3, h4⟩, ⟨hn.1, hn.2, by omega, by omega, by omega⟩, fun j hj => by omega, fun k hk => by omega, fun c hc => ?_, fun q hq => ?_, fun c hc => ?_, fun c hc => Or.inl (h5 c hc).2.2.1⟩
  · rw [(h5 c hc).1]; exact ⟨by decide, fun _ => rfl⟩
  · by_cases e : q < 6
    · rw [(h5 q e).2.2.2]; decide
    · exact h6 q (by omega) hq
  · rw [(h5 c hc).2.1]; exact ⟨inb_nI hc (by omega), fun h => inb_nI h (by omega)⟩
theorem RC0 {V : Vw} {M : Mem} (a : M.1 0 0 = V 0 1 ∧ M.1 17 0 = V 0 1 ∧ M.1 24 0 = V 0 1 ∧ M.1 1 7 = V 0 2 ∧ M.1 1 8 = V 0 8 ∧ M.1 9 2 = V 0 13) (h5 : ∀ j, j < 6 → V 7 j = 0 ∧ V 8 j = nI j ∧ V 9 j = 0 ∧ V 10 j = 0) (h : ∀ j, j < 6 → M.1 8 j = 0 ∧ M.1 10 j = 0 ∧ M.1 18 j = nI j ∧ M.1 25 j = 0) : RC 0 0 0 V M := by
  refine ⟨a, fun j hj => by omega, fun k hk => by omega, fun c hc => ?_, fun c hc => ?_, fun r hr => by omega, fun c hc => ?_, fun c hc => ?_⟩
  · rw [(h c hc).1, (h5 c hc).1]
  · rw [(h c hc).2.1, (h5 c hc).2.2.2]
  · rw [(h c hc).2.2.1, (h5 c hc).2.1]
  · rw [(h c hc).2.2.2, (h5 c hc).2.2.1]
theorem RTself {M : Mem} : RT M.1 M := ⟨fun _ _ _ => rfl, rfl, rfl, rfl, rfl⟩
