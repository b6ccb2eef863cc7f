/-! nearest: what is sought -/
def ch (B : Nat) (V : Vw) (c : Nat) (v : Int32) : Prop := v = itm V 0 c ∨ (V 9 c = 0 ∧ ∃ r, r < B ∧ v = itm V (r + 1) c)
def cand (n B : Nat) (V : Vw) (x : Nat → Int32) : Prop := ∀ c, c < n → ch B V c (x c)
def dst (V : Vw) (c : Nat) (v : Int32) : Nat := (v.toInt - (itm V 0 c).toInt).natAbs
def ci (V : Vw) (c : Nat) (v : Int32) : Nat := if v = itm V 0 c then 0 else 10000 + dst V c v
def cst (V : Vw) (x : Nat → Int32) : Nat → Nat
  | 0 => 0
  | c + 1 => cst V x c + ci V c (x c)
def lx (n : Nat) (x y : Nat → Int32) : Prop := ∃ c, c < n ∧ (∀ j, j < c → x j = y j) ∧ (x c).toInt < (y c).toInt
def be (n : Nat) (V : Vw) (x y : Nat → Int32) : Prop := cst V x n < cst V y n ∨ (cst V x n = cst V y n ∧ ¬ lx n y x)
def eqn (n : Nat) (x y : Nat → Int32) : Prop := ∀ c, c < n → x c = y c
theorem lx_tr {n : Nat} {x y z : Nat → Int32} (h : lx n x y) (h' : lx n y z) : lx n x z := by
  obtain ⟨c, c1, c2, c3⟩ := h
  obtain ⟨d, d1, d2, d3⟩ := h'
  rcases Nat.lt_trichotomy c d with e | e | e
  · exact ⟨c, c1, fun j hj => (c2 j hj).trans (d2 j (by omega)), by rw [← d2 c e]; exact c3⟩
  · subst e
    exact ⟨c, c1, fun j hj => (c2 j hj).trans (d2 j hj), by omega⟩
  · exact ⟨d, d1, fun j hj => (c2 j (by omega)).trans (d2 j hj), by rw [c2 d e]; exact d3⟩
theorem lx_ir {n : Nat} {x y : Nat → Int32} (e : eqn n x y) : ¬ lx n x y := by
  intro ⟨c, c1, c2, c3⟩
  rw [e c c1] at c3; omega
theorem lx_as {n : Nat} {x y : Nat → Int32} (h : lx n x y) : ¬ lx n y x := fun q => lx_ir (fun _ _ => rfl) (lx_tr h q)
theorem lx_tot {n : Nat} {x y : Nat → Int32} (h : ¬ lx n x y) (h' : ¬ lx n y x) : eqn n x y := by
  intro c hc
  apply Decidable.byContradiction
  intro q
  obtain ⟨k, k1, k2, k3⟩ := least (p := fun c => ¬ x c = y c) ⟨c, hc, q⟩
  have k4 : ∀ j, j < k → x j = y j := fun j hj => Decidable.byContradiction (k3 j hj)
  have : ¬ (x k).toInt = (y k).toInt := fun e => k2 (Int32.toInt_inj.mp e)
  by_cases e : (x k).toInt < (y k).toInt
  · exact h ⟨k, k1, k4, e⟩
  · exact h' ⟨k, k1, fun j hj => (k4 j hj).symm, by omega⟩
theorem lx_cg {n : Nat} {x x' y y' : Nat → Int32} (e : eqn n x x') (e' : eqn n y y') (h : lx n x y) : lx n x' y' := by
  obtain ⟨c, c1, c2, c3⟩ := h
  refine ⟨c, c1, fun j hj => ?_, ?_⟩
  · rw [← e j (by omega), ← e' j (by omega)]; exact c2 j hj
  · rw [← e c c1, ← e' c c1]; exact c3
theorem cst_cg {V : Vw} {x y : Nat → Int32} : ∀ {k : Nat}, eqn k x y → cst V x k = cst V y k := by
  intro k
  induction k with
  | zero => intro _; rfl
  | succ k ih => intro h; simp only [cst]; rw [ih (fun c hc => h c (by omega)), h k (by omega)]
theorem cst_mono {V : Vw} {x : Nat → Int32} {a : Nat} : ∀ {k : Nat}, a ≤ k → cst V x a ≤ cst V x k := by
  intro k
  induction k with
  | zero => intro h; rw [show a = 0 by omega]; exact Nat.le_refl _
  | succ k ih =>
    intro h
    by_cases e : a = k + 1
    · rw [e]; exact Nat.le_refl _
    · have := ih (by omega); simp only [cst]; omega
theorem be_cg {n : Nat} {V : Vw} {x x' y y' : Nat → Int32} (e : eqn n x x') (e' : eqn n y y') (h : be n V x y) : be n V x' y' := by
  unfold be at h ⊢
  rw [← cst_cg e, ← cst_cg e']
  exact h.imp id (fun q => ⟨q.1, fun r => q.2 (lx_cg (fun c hc => (e' c hc).symm) (fun c hc => (e c hc).symm) r)⟩)
theorem eqn.sy {n : Nat} {x y : Nat → Int32} (e : eqn n x y) : eqn n y x := fun c hc => (e c hc).symm
theorem cand_cg {n B : Nat} {V : Vw} {x y : Nat → Int32} (e : eqn n x y) (h : cand n B V x) : cand n B V y := fun c hc => by rw [← e c hc]; exact h c hc
/-- the best over a set -/
def Bst (n R B : Nat) (V : Vw) (w : Int) (S : (Nat → Int32) → Prop) (x : Nat → Int32) : Prop := cand n B V x ∧ w ≤ ans R V x ∧ ∀ y, S y → cand n B V y → w ≤ ans R V y → be n V x y
def Non (n R B : Nat) (V : Vw) (w : Int) (S : (Nat → Int32) → Prop) : Prop := ∀ y, S y → cand n B V y → ¬ w ≤ ans R V y
theorem Bst_u {n R B : Nat} {V : Vw} {w : Int} {S S' : (Nat → Int32) → Prop} {x y : Nat → Int32} (h : Bst n R B V w S x) (h' : Bst n R B V w S' y) (hS : S y) (hS' : S' x) : eqn n x y := by
  have h1 := h.2.2 y hS h'.1 h'.2.1
  have h2 := h'.2.2 x hS' h.1 h.2.1
  unfold be at h1 h2
  refine lx_tot (fun q => ?_) (fun q => ?_)
  · rcases h2 with h2 | h2
    · rcases h1 with h1 | h1 <;> omega
    · exact h2.2 q
  · rcases h1 with h1 | h1
    · rcases h2 with h2 | h2 <;> omega
    · exact h1.2 q
section PS
variable {n N R B : Nat} {V : Vw} {M : Mem}
theorem ch_bd (W : WF n N R B V) {c : Nat} {v : Int32} (hc : c < 6) (h : ch B V c v) : -100 ≤ v.toInt ∧ v.toInt ≤ 100 := by
  have hb := W.2.1
  rcases h with h | ⟨-, r, hr, h⟩
  · rw [h]; exact itm_bd W (by omega) c hc
  · rw [h]; exact itm_bd W (by omega) c hc
theorem ci_bd (W : WF n N R B V) {c : Nat} {v : Int32} (hc : c < 6) (h : ch B V c v) : ci V c v ≤ 10200 := by
  have h1 := ch_bd W hc h
  have h2 := itm_bd W (show 0 ≤ 5 by omega) c hc
  unfold ci dst
  split <;> omega
theorem cst_bd (W : WF n N R B V) {x : Nat → Int32} : ∀ {k : Nat}, k ≤ 6 → (∀ c, c < k → ch B V c (x c)) → cst V x k ≤ k * 10200 := by
  intro k
  induction k with
  | zero => intro _ _; simp [cst]
  | succ k ih =>
    intro hk h
    have h1 := ih (by omega) (fun c hc => h c (by omega))
    have h2 := ci_bd W (by omega) (h k (by omega))
    simp only [cst]; omega
end PS
