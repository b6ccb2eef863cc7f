/-! the pure side: loops, sums -/
theorem itr_inv {σ ρ : Type} {f : σ → Option (σ ⊕ ρ)} {P : Nat → σ → Prop} {Q : ρ → Prop} {k : Nat}
    (hs : ∀ i s, i < k → P i s → ∃ x, f s = some x ∧ zEx (P (i + 1)) Q x) (he : ∀ s, P k s → ∃ r, f s = some (.inr r) ∧ Q r) :
    ∀ (d n i : Nat) (s : σ), i + d = k → d < n → P i s → ∃ r, itr n f s = some r ∧ Q r := by
  intro d
  induction d with
  | zero =>
    intro n i s hi hn hp
    obtain ⟨n, rfl⟩ : ∃ m, n = m + 1 := ⟨n - 1, by omega⟩
    obtain ⟨r, h1, h2⟩ := he s (by rw [← hi]; exact hp)
    exact ⟨r, by rw [itr, h1], h2⟩
  | succ d ih =>
    intro n i s hi hn hp
    obtain ⟨n, rfl⟩ : ∃ m, n = m + 1 := ⟨n - 1, by omega⟩
    obtain ⟨x, h1, h2⟩ := hs i s (by omega) hp
    cases x with
    | inl t =>
      obtain ⟨r, h3, h4⟩ := ih n (i + 1) t (by omega) (by omega) h2
      exact ⟨r, by rw [itr, h1]; exact h3, h4⟩
    | inr r => exact ⟨r, by rw [itr, h1], h2⟩
/-- a loop of k rounds, from P 0 -/
theorem itr_run {σ ρ : Type} {f : σ → Option (σ ⊕ ρ)} (P : Nat → σ → Prop) (Q : ρ → Prop) (k : Nat) {n : Nat} {s : σ} (hk : k < n) (h0 : P 0 s)
    (hs : ∀ i s, i < k → P i s → ∃ x, f s = some x ∧ zEx (P (i + 1)) Q x) (he : ∀ s, P k s → ∃ r, f s = some (.inr r) ∧ Q r) : ∃ r, itr n f s = some r ∧ Q r :=
  itr_inv hs he k n 0 s (by omega) hk h0
/-- a loop whose states are known -/
theorem itr_st {σ ρ : Type} {f : σ → Option (σ ⊕ ρ)} (st : Nat → σ) (k : Nat) {r : ρ} {n : Nat} (hk : k < n) (hs : ∀ i, i < k → f (st i) = some (.inl (st (i + 1)))) (he : f (st k) = some (.inr r)) : itr n f (st 0) = some r := by
  obtain ⟨q, h1, h2⟩ := itr_run (f := f) (fun i s => s = st i) (fun q => q = r) k hk (s := st 0) rfl (fun i s hi hp => ⟨.inl (st (i + 1)), by rw [hp]; exact hs i hi, rfl⟩) (fun s hp => ⟨r, by rw [hp]; exact he, rfl⟩)
  rw [h1, h2]
theorem chk_t {α : Type} {b : Bool} {k : Option α} (h : b = true) : chk b k = k := by rw [h]; rfl
theorem chk_true {α : Type} {k : Option α} : chk true k = k := rfl
theorem bnd_s {α β : Type} {a : α} {f : α → Option β} : bnd (some a) f = f a := rfl
theorem bnd_e {α β : Type} {x : Option α} {a : α} {f : α → Option β} (h : x = some a) : bnd x f = f a := by rw [h]; rfl
theorem nm_s {α β : Type} {a : α} {f : α → Option β} : nm a f = f a := rfl
theorem zfu_gt {k : Nat} (h : k < 100000) : k < zfu := h
theorem inb_nI {k b : Nat} (h : k < b) (hb : b < 2 ^ 31) : inb (nI k) b = true := by
  have := nI_in h hb
  simp only [inb, Bool.and_eq_true, Bool.not_eq_true', decide_eq_false_iff_not, decide_eq_true_eq]
  exact ⟨fun q => this (Or.inl q), Nat.not_le.mp fun q => this (Or.inr q)⟩
theorem inb_eq {x : Int32} {b : Nat} (h : inb x b = true) : x = nI x.toNatClampNeg ∧ x.toNatClampNeg < b := by
  simp only [inb, Bool.and_eq_true, Bool.not_eq_true', decide_eq_false_iff_not, decide_eq_true_eq] at h
  refine ⟨?_, h.2⟩
  have h1 : ¬ x.toInt < 0 := by
    have := h.1
    rwa [Int32.lt_iff_toInt_lt] at this
  apply Int32.toInt_inj.mp
  have h2 : (x.toNatClampNeg : Int) = x.toInt := by
    show ((x.toInt.toNat : Nat) : Int) = x.toInt
    omega
  have h3 : x.toInt < 2 ^ 31 := Int32.toInt_lt x
  rw [nI_toInt (by omega), h2]
theorem inb_mono {x : Int32} {a b : Nat} (h : inb x a = true) (hab : a ≤ b) : inb x b = true := by
  simp only [inb, Bool.and_eq_true, Bool.not_eq_true', decide_eq_false_iff_not, decide_eq_true_eq] at h ⊢
  exact ⟨h.1, Nat.lt_of_lt_of_le h.2 hab⟩
/-- sums of integers -/
def sm (f : Nat → Int) : Nat → Int
  | 0 => 0
  | k + 1 => sm f k + f k
theorem sm_congr {f g : Nat → Int} : ∀ {k : Nat}, (∀ i, i < k → f i = g i) → sm f k = sm g k := by
  intro k
  induction k with
  | zero => intro _; rfl
  | succ k ih => intro h; show sm f k + f k = sm g k + g k; rw [ih (fun i hi => h i (by omega)), h k (by omega)]
theorem sm_bound {f : Nat → Int} {C : Int} : ∀ {k : Nat}, (∀ i, i < k → -C ≤ f i ∧ f i ≤ C) → -(k * C) ≤ sm f k ∧ sm f k ≤ k * C := by
  intro k
  induction k with
  | zero => intro _; simp [sm]
  | succ k ih =>
    intro h
    have h1 := ih (fun i hi => h i (by omega))
    have h2 := h k (by omega)
    have h3 : ((k + 1 : Nat) : Int) * C = k * C + C := by rw [Int.natCast_add, Int.add_mul]; simp
    rw [h3]
    show _ ≤ sm f k + f k ∧ sm f k + f k ≤ _
    omega
theorem sm_tail {f : Nat → Int} {a : Nat} : ∀ {k : Nat}, a ≤ k → (∀ i, a ≤ i → i < k → f i = 0) → sm f k = sm f a := by
  intro k
  induction k with
  | zero => intro h _; rw [show a = 0 by omega]
  | succ k ih =>
    intro h hz
    by_cases e : a = k + 1
    · rw [e]
    · show sm f k + f k = _
      rw [ih (by omega) (fun i h1 h2 => hz i h1 (by omega)), hz k (by omega) (by omega)]
      simp
theorem sm_add {f g : Nat → Int} : ∀ {k : Nat}, sm (fun i => f i + g i) k = sm f k + sm g k := by
  intro k
  induction k with
  | zero => rfl
  | succ k ih => show sm _ k + (f k + g k) = (sm f k + f k) + (sm g k + g k); rw [ih]; omega
theorem sm_mul {f : Nat → Int} {a : Int} : ∀ {k : Nat}, sm (fun i => a * f i) k = a * sm f k := by
  intro k
  induction k with
  | zero => show (0 : Int) = a * 0; omega
  | succ k ih => show sm _ k + a * f k = a * (sm f k + f k); rw [ih, Int.mul_add]
theorem sm_zero {f : Nat → Int} : ∀ {k : Nat}, (∀ i, i < k → f i = 0) → sm f k = 0 := fun {k} h => by
  rw [sm_tail (a := 0) (Nat.zero_le k) (fun i _ hi => h i hi)]; rfl
/-- a double sum, turned -/
theorem sm_swap {f : Nat → Nat → Int} : ∀ {a b : Nat}, sm (fun i => sm (fun j => f i j) b) a = sm (fun j => sm (fun i => f i j) a) b := by
  intro a
  induction a with
  | zero => intro b; exact (sm_zero (fun i _ => rfl)).symm
  | succ a ih =>
    intro b
    show sm _ a + sm (fun j => f a j) b = _
    rw [ih, ← sm_add]
    rfl
theorem ofI_add (a : Int) (x : Int32) : Int32.ofInt a + x = Int32.ofInt (a + x.toInt) := by rw [Int32.ofInt_add, Int32.ofInt_toInt]
theorem ofL_add (a : Int) (x : Int64) : Int64.ofInt a + x = Int64.ofInt (a + x.toInt) := by rw [Int64.ofInt_add, Int64.ofInt_toInt]
theorem toL_of {a : Int} (h1 : -2147483648 ≤ a) (h2 : a ≤ 2147483647) : (Int32.ofInt a).toInt64 = Int64.ofInt a := Int32.toInt64_ofInt h1 h2
theorem toL_in (x : Int32) : x.toInt64 = Int64.ofInt x.toInt := by
  have h := Int64.ofInt_toInt x.toInt64
  rw [Int32.toInt_toInt64] at h
  exact h.symm
theorem mul_toI {x y : Int32} {A B : Int} (hA : -A ≤ x.toInt ∧ x.toInt ≤ A) (hB : -B ≤ y.toInt ∧ y.toInt ≤ B) (hA0 : 0 ≤ A) (hAB : A * B < 2147483648) : (x * y).toInt = x.toInt * y.toInt ∧ -(A * B) ≤ x.toInt * y.toInt ∧ x.toInt * y.toInt ≤ A * B := by
  have hb : -(A * B) ≤ x.toInt * y.toInt ∧ x.toInt * y.toInt ≤ A * B := by
    have : (x.toInt * y.toInt).natAbs ≤ A.natAbs * B.natAbs := by
      rw [Int.natAbs_mul]
      exact Nat.mul_le_mul (by omega) (by omega)
    have h2 : (A.natAbs * B.natAbs : Nat) = (A * B).natAbs := (Int.natAbs_mul A B).symm
    have h3 : 0 ≤ A * B := Int.mul_nonneg hA0 (by omega)
    omega
  refine ⟨?_, hb⟩
  have e : x * y = Int32.ofInt (x.toInt * y.toInt) := by rw [Int32.ofInt_mul, Int32.ofInt_toInt, Int32.ofInt_toInt]
  rw [e]
  exact Int32.toInt_ofInt_of_le (by omega) (by omega)
