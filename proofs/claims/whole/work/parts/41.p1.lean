/-! the reference's arrays as a view; what the class's memory has of them -/
abbrev Vw : Type := Nat → Nat → Int32
def WF (n N R B : Nat) (V : Vw) : Prop :=
  (V 0 1 = nI n ∧ V 0 2 = nI N ∧ V 0 8 = nI R ∧ V 0 13 = nI B) ∧ (1 ≤ n ∧ n ≤ 6 ∧ N ≤ 30 ∧ R ≤ 4 ∧ B ≤ 5) ∧
  (∀ j, j < N → (-1000 ≤ (V 2 j).toInt ∧ (V 2 j).toInt ≤ 1000) ∧ (V 1 j = 1 ∨ (V 1 j = 0 ∧ inb (V 3 j) n = true ∧ inb (V 4 j) j = true ∧ inb (V 5 j) j = true))) ∧
  (∀ k, k < R → inb (V 6 k) N = true) ∧
  (∀ c, c < 6 → (-20 ≤ (V 7 c).toInt ∧ (V 7 c).toInt ≤ 20) ∧ (n ≤ c → V 7 c = 0)) ∧
  (∀ q, q < 36 → -100 ≤ (V 10 q).toInt ∧ (V 10 q).toInt ≤ 100) ∧
  (∀ c, c < 6 → inb (V 8 c) 6 = true ∧ (c < n → inb (V 8 c) n = true)) ∧
  (∀ c, c < 6 → V 9 c = 0 ∨ V 9 c = 1)
def RT (V : Vw) (M : Mem) : Prop := (∀ k, 1 ≤ k → k ≤ 10 → M.1 k = V k) ∧ M.1 0 1 = V 0 1 ∧ M.1 0 2 = V 0 2 ∧ M.1 0 8 = V 0 8 ∧ M.1 0 13 = V 0 13
def RC (N R B : Nat) (V : Vw) (M : Mem) : Prop :=
  (M.1 0 0 = V 0 1 ∧ M.1 17 0 = V 0 1 ∧ M.1 24 0 = V 0 1 ∧ M.1 1 7 = V 0 2 ∧ M.1 1 8 = V 0 8 ∧ M.1 9 2 = V 0 13) ∧
  (∀ j, j < N → M.1 3 j = V 2 j ∧ (V 1 j ≠ 0 → M.1 2 j = -1) ∧ (V 1 j = 0 → M.1 2 j = V 3 j ∧ M.1 4 j = V 4 j ∧ M.1 5 j = V 5 j)) ∧
  (∀ k, k < R → M.1 7 k = V 6 k) ∧ (∀ c, c < 6 → M.1 8 c = V 7 c) ∧ (∀ c, c < 6 → M.1 10 c = V 10 c) ∧
  (∀ r, r < B → ∀ c, c < 6 → M.1 (12 + r) c = V 10 (6 * (r + 1) + c)) ∧ (∀ c, c < 6 → M.1 18 c = V 8 c) ∧ (∀ c, c < 6 → M.1 25 c = V 9 c)
theorem RT.of {V : Vw} {M M' : Mem} (h : RT V M) (h1 : ∀ k, 1 ≤ k → k ≤ 10 → M'.1 k = M.1 k) (h2 : ∀ j, j = 1 ∨ j = 2 ∨ j = 8 ∨ j = 13 → M'.1 0 j = M.1 0 j) : RT V M' :=
  ⟨fun k a b => (h1 k a b).trans (h.1 k a b), (h2 1 (by decide)).trans h.2.1, (h2 2 (by decide)).trans h.2.2.1, (h2 8 (by decide)).trans h.2.2.2.1, (h2 13 (by decide)).trans h.2.2.2.2⟩
theorem RT.sI {V : Vw} {M : Mem} (h : RT V M) {k : Nat} {i v : Int32} (hk : 11 ≤ k) : RT V (wI M k i v) :=
  h.of (fun q a b => by simp only [wI]; rw [if_neg (by omega)]) (fun j hj => by simp only [wI]; rw [if_neg (by omega)])
theorem RT.sL {V : Vw} {M : Mem} (h : RT V M) {k : Nat} {i : Int32} {v : Int64} : RT V (wL M k i v) := h.of (fun _ _ _ => rfl) (fun _ _ => rfl)
theorem RT.sF {V : Vw} {M : Mem} (h : RT V M) {j : Nat} {v : Int32} (hj : j = 0 ∨ j = 17 ∨ j = 23 ∨ j = 24) : RT V (wF M 0 j v) :=
  h.of (fun q a b => by simp only [wF]; rw [if_neg (by omega)]) (fun q hq => by simp only [wF, upd, ↓reduceIte]; rw [if_neg (by omega)])
theorem RC.of {N R B : Nat} {V : Vw} {M M' : Mem} (h : RC N R B V M) (hB : B ≤ 5) (h1 : ∀ k, (k ≤ 5 ∨ (7 ≤ k ∧ k ≤ 10) ∨ (12 ≤ k ∧ k ≤ 18) ∨ k = 25) → M'.1 k = M.1 k) (h2 : M'.1 24 0 = M.1 24 0) : RC N R B V M' := by
  obtain ⟨⟨a1, a2, a3, a4, a5, a6⟩, b, c, d, e, f, g, i⟩ := h
  refine ⟨⟨?_, ?_, ?_, ?_, ?_, ?_⟩, fun j hj => ?_, fun k hk => ?_, fun k hk => ?_, fun k hk => ?_, fun r hr k hk => ?_, fun k hk => ?_, fun k hk => ?_⟩
  · rw [h1 0 (by omega)]; exact a1
  · rw [h1 17 (by omega)]; exact a2
  · rw [h2]; exact a3
  · rw [h1 1 (by omega)]; exact a4
  · rw [h1 1 (by omega)]; exact a5
  · rw [h1 9 (by omega)]; exact a6
  · rw [h1 3 (by omega), h1 2 (by omega), h1 4 (by omega), h1 5 (by omega)]; exact b j hj
  · rw [h1 7 (by omega)]; exact c k hk
  · rw [h1 8 (by omega)]; exact d k hk
  · rw [h1 10 (by omega)]; exact e k hk
  · rw [h1 (12 + r) (by omega)]; exact f r hr k hk
  · rw [h1 18 (by omega)]; exact g k hk
  · rw [h1 25 (by omega)]; exact i k hk
theorem RC.sI {N R B : Nat} {V : Vw} {M : Mem} (h : RC N R B V M) (hB : B ≤ 5) {k : Nat} {i v : Int32} (hk : k = 6 ∨ (20 ≤ k ∧ k ≤ 23) ∨ 26 ≤ k) : RC N R B V (wI M k i v) :=
  h.of hB (fun q a => by simp only [wI]; rw [if_neg (by omega)]) (by simp only [wI]; rw [if_neg (by omega)])
theorem RC.sL {N R B : Nat} {V : Vw} {M : Mem} (h : RC N R B V M) (hB : B ≤ 5) {k : Nat} {i : Int32} {v : Int64} : RC N R B V (wL M k i v) := h.of hB (fun _ _ => rfl) rfl
theorem RC.sF {N R B : Nat} {V : Vw} {M : Mem} (h : RC N R B V M) (hB : B ≤ 5) {k j : Nat} {v : Int32} (hk : k = 22 ∨ (k = 24 ∧ j ≠ 0)) : RC N R B V (wF M k j v) :=
  h.of hB (fun q a => by simp only [wF]; rw [if_neg (by omega)]) (by
    simp only [wF, upd]
    rcases hk with rfl | ⟨rfl, h0⟩
    · rw [if_neg (by omega)]
    · rw [if_pos rfl]
      exact if_neg (fun e => h0 e.symm))
/-! one row's answer -/
def lfN (V : Vw) (row : Nat → Int32) : Nat → Nat → Nat
  | 0, j => j
  | f + 1, j => if V 1 j = 0 then (if V 2 j < row (V 3 j).toNatClampNeg then lfN V row f (V 5 j).toNatClampNeg else lfN V row f (V 4 j).toNatClampNeg) else j
def leafN (V : Vw) (row : Nat → Int32) (j : Nat) : Nat := lfN V row 31 j
def ans (R : Nat) (V : Vw) (row : Nat → Int32) : Int := sm (fun k => (V 2 (leafN V row (V 6 k).toNatClampNeg)).toInt) R + sm (fun c => (V 7 c).toInt * (row c).toInt) 6
section PS
variable {n N R B : Nat} {V : Vw} {M : Mem}
theorem lf_fuel {row : Nat → Int32} (W : WF n N R B V) : ∀ f g j, j < N → j < f → j < g → lfN V row f j = lfN V row g j := by
  intro f
  induction f with
  | zero => intro g j _ h; omega
  | succ f ih =>
    intro g j hN hf hg
    obtain ⟨g, rfl⟩ : ∃ m, g = m + 1 := ⟨g - 1, by omega⟩
    obtain ⟨-, h⟩ := W.2.2.1 j hN
    rcases h with h | ⟨h0, h1, h2, h3⟩
    · rw [lfN, lfN, if_neg (by rw [h]; decide), if_neg (by rw [h]; decide)]
    · have e2 := (inb_eq h2).2
      have e3 := (inb_eq h3).2
      simp only [lfN, h0, ↓reduceIte]
      rw [ih g _ (by omega) (by omega) (by omega), ih g _ (by omega) (by omega) (by omega)]
theorem lf_lt {row : Nat → Int32} (W : WF n N R B V) : ∀ f j, j < N → lfN V row f j < N := by
  intro f
  induction f with
  | zero => intro j h; exact h
  | succ f ih =>
    intro j hN
    obtain ⟨-, h⟩ := W.2.2.1 j hN
    rcases h with h | ⟨h0, h1, h2, h3⟩
    · rw [lfN, if_neg (by rw [h]; decide)]; exact hN
    · have e2 := (inb_eq h2).2
      have e3 := (inb_eq h3).2
      simp only [lfN, h0, ↓reduceIte]
      split
      · exact ih _ (by omega)
      · exact ih _ (by omega)
theorem lf_congr {row row' : Nat → Int32} (W : WF n N R B V) (h : ∀ c, c < n → row c = row' c) : ∀ f j, j < N → lfN V row f j = lfN V row' f j := by
  intro f
  induction f with
  | zero => intro j _; rfl
  | succ f ih =>
    intro j hN
    obtain ⟨-, hh⟩ := W.2.2.1 j hN
    rcases hh with hh | ⟨h0, h1, h2, h3⟩
    · rw [lfN, lfN, if_neg (by rw [hh]; decide), if_neg (by rw [hh]; decide)]
    · have e2 := (inb_eq h2).2
      have e3 := (inb_eq h3).2
      simp only [lfN, h0, ↓reduceIte]
      rw [ih _ (by omega), ih _ (by omega), h _ (inb_eq h1).2]
theorem ans_congr1 {row row' : Nat → Int32} (W : WF n N R B V) (h : ∀ c, c < n → row c = row' c) : sm (fun k => (V 2 (leafN V row (V 6 k).toNatClampNeg)).toInt) R = sm (fun k => (V 2 (leafN V row' (V 6 k).toNatClampNeg)).toInt) R := sm_congr (fun k hk => congrArg (fun q => (V 2 q).toInt) (lf_congr W h 31 _ (inb_eq (W.2.2.2.1 k hk)).2))
theorem ans_congr2 {row row' : Nat → Int32} (W : WF n N R B V) (h : ∀ c, c < n → row c = row' c) : sm (fun c => (V 7 c).toInt * (row c).toInt) 6 = sm (fun c => (V 7 c).toInt * (row' c).toInt) 6 := by
  refine sm_congr (fun c hc => ?_)
  by_cases e : c < n
  · rw [h c e]
  · have h0 := (W.2.2.2.2.1 c hc).2 (by omega)
    have h1 : (V 7 c).toInt = 0 := by rw [h0]; decide
    simp only [h1, Int.zero_mul]
theorem ans_congr {row row' : Nat → Int32} (W : WF n N R B V) (h : ∀ c, c < n → row c = row' c) : ans R V row = ans R V row' := by
  have h1 := ans_congr1 W h
  have h2 := ans_congr2 W h
  unfold ans
  rw [h1, h2]
theorem ans_bound {row : Nat → Int32} (W : WF n N R B V) (h : ∀ c, c < 6 → -100 ≤ (row c).toInt ∧ (row c).toInt ≤ 100) : -16000 ≤ ans R V row ∧ ans R V row ≤ 16000 := by
  have h1 := sm_bound (f := fun k => (V 2 (leafN V row (V 6 k).toNatClampNeg)).toInt) (C := 1000) (k := R) (fun k hk => (W.2.2.1 _ (lf_lt (row := row) W 31 _ (inb_eq (W.2.2.2.1 k hk)).2)).1)
  have h2 := sm_bound (f := fun c => (V 7 c).toInt * (row c).toInt) (C := 2000) (k := 6) (fun c hc => (mul_toI (W.2.2.2.2.1 c hc).1 (h c hc) (by omega) (by omega)).2)
  have := W.2.1
  unfold ans
  omega
theorem gb_loop {a2 : Nat} {row : Nat → Int32} (W : WF n N R B V) (C : RC N R B V M) (hrow : ∀ c, c < n → M.1 a2 c = row c) (ha : alenC a2 = 6) :
    ∀ f j i fu, j < N → j < f → i + j < N → j < fu → ∃ x, itr fu (fun s => p_Ln_givenBy_L5 a2 M s.1 s.2) (nI j, nI i) = some (nI (lfN V row f j), x) := by
  intro f
  induction f with
  | zero => intro j i fu _ h; omega
  | succ f ih =>
    intro j i fu hN hf hi hfu
    obtain ⟨fu, rfl⟩ : ∃ m, fu = m + 1 := ⟨fu - 1, by omega⟩
    have hb := W.2.1
    have k1 : ¬ M.1 1 7 ≤ nI i := by rw [C.1.2.2.2.1, W.1.2.1]; exact nI_ge (by omega) (by omega)
    have k2 : inb (nI j) 30 = true := inb_nI (by omega) (by omega)
    obtain ⟨r1, r2, r3⟩ := C.2.1 j hN
    obtain ⟨-, h⟩ := W.2.2.1 j hN
    have ej : (nI j).toNatClampNeg = j := nI_clamp (by omega)
    rcases h with h | ⟨h0, h1, h2, h3⟩
    · have e2 := r2 (by rw [h]; decide)
      refine ⟨nI i, ?_⟩
      have hL : lfN V row (f + 1) j = j := by rw [lfN, if_neg (by rw [h]; decide)]
      rw [hL]
      simp only [itr, p_Ln_givenBy_L5, k1, k2, chk_true, ej, e2, ↓reduceIte]
    · obtain ⟨q1, q2, q3⟩ := r3 h0
      obtain ⟨f1, f2⟩ := inb_eq h1
      obtain ⟨g1, g2⟩ := inb_eq h2
      obtain ⟨d1, d2⟩ := inb_eq h3
      have e2 : ¬ V 3 j = -1 := by
        rw [f1]
        intro q
        have := congrArg Int32.toInt q
        rw [nI_toInt (by omega)] at this
        have h9 : (-1 : Int32).toInt = -1 := by decide
        omega
      have k3 : inb (V 3 j) 6 = true := inb_mono h1 (by omega)
      have hL : lfN V row (f + 1) j = if V 2 j < row (V 3 j).toNatClampNeg then lfN V row f (V 5 j).toNatClampNeg else lfN V row f (V 4 j).toNatClampNeg := by simp only [lfN, h0, ↓reduceIte]
      rw [hL]
      by_cases cc : V 2 j < row (V 3 j).toNatClampNeg
      · obtain ⟨x, hx⟩ := ih (V 5 j).toNatClampNeg (i + 1) fu (by omega) (by omega) (by omega) (by omega)
        refine ⟨x, ?_⟩
        have st : p_Ln_givenBy_L5 a2 M (nI j) (nI i) = some (.inl (nI (V 5 j).toNatClampNeg, nI (i + 1))) := by
          rw [← d1, ← nI_1]
          simp only [p_Ln_givenBy_L5, k1, k2, chk_true, ej, q1, q2, q3, r1, e2, ha, k3, hrow _ f2, cc, ↓reduceIte]
        rw [if_pos cc, itr]
        simp only [st]
        exact hx
      · obtain ⟨x, hx⟩ := ih (V 4 j).toNatClampNeg (i + 1) fu (by omega) (by omega) (by omega) (by omega)
        refine ⟨x, ?_⟩
        have st : p_Ln_givenBy_L5 a2 M (nI j) (nI i) = some (.inl (nI (V 4 j).toNatClampNeg, nI (i + 1))) := by
          rw [← g1, ← nI_1]
          simp only [p_Ln_givenBy_L5, k1, k2, chk_true, ej, q1, q2, q3, r1, e2, ha, k3, hrow _ f2, cc, ↓reduceIte]
        rw [if_neg cc, itr]
        simp only [st]
        exact hx
theorem e_givenBy {a2 : Nat} {row : Nat → Int32} (W : WF n N R B V) (C : RC N R B V M) (hrow : ∀ c, c < n → M.1 a2 c = row c) (ha : alenC a2 = 6) {j : Nat} (hj : j < N) : p_Ln_givenBy (nI j) a2 M = some (V 2 (leafN V row j)) := by
  have hb := W.2.1
  obtain ⟨x, hx⟩ := gb_loop W C hrow ha 31 j 0 zfu hj (by omega) (by omega) (zfu_gt (by omega))
  have hlt := lf_lt (row := row) W 31 j hj
  have hx : itr zfu (fun s => p_Ln_givenBy_L5 a2 M s.1 s.2) (nI j, (0 : Int32)) = some (nI (lfN V row 31 j), x) := hx
  unfold p_Ln_givenBy leafN
  rw [bnd_e hx, chk_t (inb_nI (by omega) (by omega))]
  show some (M.1 3 (nI _).toNatClampNeg) = _
  rw [nI_clamp (by omega), (C.2.1 _ hlt).1]
theorem e_sumFor {a1 : Nat} {row : Nat → Int32} (W : WF n N R B V) (C : RC N R B V M) (hrow : ∀ c, c < 6 → M.1 a1 c = row c) (ha : alenC a1 = 6) : p_Ln_sumFor a1 M = some (Int32.ofInt (ans R V row)) := by
  have hb := W.2.1
  have h1 : itr zfu (fun s => p_Ln_sumFor_L4 a1 M s.1 s.2) ((0 : Int32), (0 : Int32)) = some (Int32.ofInt (sm (fun k => (V 2 (leafN V row (V 6 k).toNatClampNeg)).toInt) R), nI R) := by
    refine itr_st (fun i => (Int32.ofInt (sm (fun k => (V 2 (leafN V row (V 6 k).toNatClampNeg)).toInt) i), nI i)) R (zfu_gt (by omega)) (fun i hi => ?_) ?_
    · have k1 : ¬ M.1 1 8 ≤ nI i := by rw [C.1.2.2.2.2.1, W.1.2.2.1]; exact nI_ge (by omega) (by omega)
      obtain ⟨g1, g2⟩ := inb_eq (W.2.2.2.1 i hi)
      have k2 : inb (nI i) 4 = true := inb_nI (by omega) (by omega)
      have k3 : p_Ln_givenBy (V 6 i) a1 M = some (V 2 (leafN V row (V 6 i).toNatClampNeg)) := by
        have := e_givenBy (a2 := a1) (row := row) W C (fun c hc => hrow c (by omega)) ha g2
        rwa [← g1] at this
      simp only [p_Ln_sumFor_L4, k1, k2, chk_true, nI_clamp (show i < 2 ^ 31 by omega), C.2.2.1 i hi, k3, bnd_s, ofI_add, nI_1, sm, ↓reduceIte]
    · have k1 : M.1 1 8 ≤ nI R := by rw [C.1.2.2.2.2.1, W.1.2.2.1]; exact nI_le (by omega) (by omega)
      simp only [p_Ln_sumFor_L4, k1, ↓reduceIte]
  have h2 : itr zfu (fun s => p_Ln_sumFor_L34 a1 M s.1 s.2) (Int32.ofInt (sm (fun k => (V 2 (leafN V row (V 6 k).toNatClampNeg)).toInt) R), (0 : Int32)) = some (Int32.ofInt (ans R V row), nI 6) := by
    generalize hA : sm (fun k => (V 2 (leafN V row (V 6 k).toNatClampNeg)).toInt) R = A
    have hh : ans R V row = A + sm (fun c => (V 7 c).toInt * (row c).toInt) 6 := by unfold ans; rw [hA]
    rw [hh]
    have h9 := itr_st (f := fun s => p_Ln_sumFor_L34 a1 M s.1 s.2) (fun i => (Int32.ofInt (A + sm (fun c => (V 7 c).toInt * (row c).toInt) i), nI i)) 6 (r := (Int32.ofInt (A + sm (fun c => (V 7 c).toInt * (row c).toInt) 6), nI 6)) (n := zfu) (zfu_gt (by omega)) (fun i hi => ?_) ?_
    · rw [← h9]
      simp only [sm, Int.add_zero]
      rfl
    rotate_left
    · have k1 : (6 : Int32) ≤ nI 6 := by decide
      simp only [p_Ln_sumFor_L34, k1, ↓reduceIte]
    have k1 : ¬ (6 : Int32) ≤ nI i := nI_ge (b := 6) (by omega) (by omega)
    have k2 : inb (nI i) 6 = true := inb_nI (by omega) (by omega)
    simp only [p_Ln_sumFor_L34, k1, k2, ha, chk_true, nI_clamp (show i < 2 ^ 31 by omega), C.2.2.2.1 i hi, hrow i hi, nI_1, sm, Int32.ofInt_add, Int32.ofInt_mul, Int32.ofInt_toInt, Int32.add_assoc, ↓reduceIte]
  unfold p_Ln_sumFor
  rw [bnd_e h1, bnd_e h2]
end PS
