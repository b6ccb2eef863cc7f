/-! orders, as numbers -/
def cntN (b : Nat → Nat) (S : Nat) : Nat → Nat
  | 0 => 0
  | k + 1 => cntN b S k + (if b k = S then 1 else 0)
theorem cnt_le {b : Nat → Nat} {S : Nat} : ∀ {k : Nat}, cntN b S k ≤ k := by
  intro k
  induction k with
  | zero => exact Nat.le_refl 0
  | succ k ih => rw [cntN]; split <;> omega
theorem sm_one {f : Nat → Int} {a : Nat} : ∀ {k : Nat}, a < k → sm (fun P => (if a = P then 1 else 0) * f P) k = f a := by
  intro k
  induction k with
  | zero => intro h; omega
  | succ k ih =>
    intro h
    show sm _ k + (if a = k then 1 else 0) * f k = f a
    by_cases e : a = k
    · subst e
      rw [if_pos rfl, Int.one_mul, sm_zero (fun i hi => by rw [if_neg (by omega), Int.zero_mul])]
      omega
    · rw [ih (by omega), if_neg e, Int.zero_mul]; omega
theorem sm_cnt {D : Nat} {b : Nat → Nat} {f : Nat → Int} : ∀ {K : Nat}, (∀ w, w < K → b w < D) → sm (fun w => f (b w)) K = sm (fun P => (cntN b P K : Int) * f P) D := by
  intro K
  induction K with
  | zero => intro _; rw [sm_zero (f := fun P => (cntN b P 0 : Int) * f P) (fun i _ => by simp [cntN])]; rfl
  | succ K ih =>
    intro h
    show sm _ K + f (b K) = _
    rw [ih (fun w hw => h w (by omega)), ← sm_one (f := f) (h K (by omega)), ← sm_add]
    refine sm_congr (fun P _ => ?_)
    rw [cntN, ← Int.add_mul]
    congr 1
    split <;> simp
def digs (c : Nat → Nat) : Nat → Nat
  | 0 => 0
  | k + 1 => digs c k + c k * 1024 ^ k
theorem digs_lt {c : Nat → Nat} : ∀ {k : Nat}, (∀ i, i < k → c i < 1024) → digs c k < 1024 ^ k := by
  intro k
  induction k with
  | zero => intro _; show (0 : Nat) < 1; omega
  | succ k ih =>
    intro h
    have h1 := ih (fun i hi => h i (by omega))
    have h2 := h k (by omega)
    rw [digs, Nat.pow_succ]
    have : c k * 1024 ^ k ≤ 1023 * 1024 ^ k := Nat.mul_le_mul_right _ (by omega)
    omega
theorem digs_inj {c d : Nat → Nat} : ∀ {k : Nat}, (∀ i, i < k → c i < 1024) → (∀ i, i < k → d i < 1024) → digs c k = digs d k → ∀ i, i < k → c i = d i := by
  intro k
  induction k with
  | zero => intro _ _ _ i hi; omega
  | succ k ih =>
    intro hc hd h i hi
    have l1 := digs_lt (c := c) (k := k) (fun i hi => hc i (by omega))
    have l2 := digs_lt (c := d) (k := k) (fun i hi => hd i (by omega))
    rw [digs, digs] at h
    have hp : 0 < 1024 ^ k := Nat.pow_pos (by omega)
    have e1 : c k = d k := by
      have a1 : (digs c k + c k * 1024 ^ k) / 1024 ^ k = c k := by rw [Nat.add_mul_div_right _ _ hp, Nat.div_eq_of_lt l1, Nat.zero_add]
      have a2 : (digs d k + d k * 1024 ^ k) / 1024 ^ k = d k := by rw [Nat.add_mul_div_right _ _ hp, Nat.div_eq_of_lt l2, Nat.zero_add]
      rw [← a1, ← a2, h]
    by_cases e : i = k
    · rw [e]; exact e1
    · rw [e1] at h
      exact ih (fun i hi => hc i (by omega)) (fun i hi => hd i (by omega)) (by omega) i (by omega)
/-- what is summed, as digits -/
def encN (b : Nat → Nat) : Nat → Nat → Nat
  | 0, a => a
  | k + 1, a => encN b k (a + 1024 ^ b k)
theorem enc_add {b : Nat → Nat} : ∀ {k a : Nat}, encN b k a = encN b k 0 + a := by
  intro k
  induction k with
  | zero => intro a; show a = 0 + a; omega
  | succ k ih => intro a; rw [encN, encN, ih, ih (a := 0 + 1024 ^ b k)]; omega
theorem digs_cnt {b : Nat → Nat} {c : Nat → Nat} {a : Nat} : ∀ {k : Nat}, a < k → digs (fun P => c P + (if a = P then 1 else 0)) k = digs c k + 1024 ^ a := by
  intro k
  induction k with
  | zero => intro h; omega
  | succ k ih =>
    intro h
    rw [digs, digs]
    by_cases e : a = k
    · subst e
      have : ∀ {j : Nat}, j ≤ a → digs (fun P => c P + (if a = P then 1 else 0)) j = digs c j := by
        intro j
        induction j with
        | zero => intro _; rfl
        | succ j ihj => intro hj; rw [digs, digs, ihj (by omega), if_neg (by omega), Nat.add_zero]
      rw [this (Nat.le_refl a), if_pos rfl, Nat.add_mul]
      omega
    · rw [ih (by omega), if_neg e, Nat.add_zero]
      omega
theorem digs_0 {c : Nat → Nat} : ∀ {k : Nat}, (∀ i, i < k → c i = 0) → digs c k = 0 := by
  intro k
  induction k with
  | zero => intro _; rfl
  | succ k ih => intro h; rw [digs, ih (fun i hi => h i (by omega)), h k (by omega), Nat.zero_mul]
theorem enc_digs {D : Nat} {b : Nat → Nat} : ∀ {K : Nat}, (∀ w, w < K → b w < D) → encN b K 0 = digs (fun P => cntN b P K) D := by
  intro K
  induction K with
  | zero => intro _; exact (digs_0 (c := fun P => cntN b P 0) (fun i _ => rfl)).symm
  | succ K ih =>
    intro h
    rw [encN, enc_add, ih (fun w hw => h w (by omega)), Nat.zero_add]
    exact (digs_cnt (b := b) (c := fun P => cntN b P K) (h K (by omega))).symm
theorem enc_sum {D : Nat} {b : Nat → Nat} {c : Nat → Nat} {K : Nat} (hb : ∀ w, w < K → b w < D) (hK : K < 1024) (hc : ∀ P, P < D → c P < 1024) (h : encN b K 0 = digs c D) (f : Nat → Int) : sm (fun w => f (b w)) K = sm (fun P => (c P : Int) * f P) D := by
  rw [sm_cnt hb]
  refine sm_congr (fun P hP => ?_)
  rw [digs_inj (c := fun P => cntN b P K) (d := c) (fun i _ => Nat.lt_of_le_of_lt cnt_le hK) hc (by rw [← enc_digs hb]; exact h) P hP]
/-- the pick-th that isn't used -/
def nthR (used : Nat) : Nat → Nat → Nat → Nat
  | 0, _, a => a
  | f + 1, pick, a => if used.testBit a = true then nthR used f pick (a + 1) else match pick with
    | 0 => a
    | p + 1 => nthR used f p (a + 1)
def nth (used pick : Nat) : Nat := nthR used 12 pick 0
/-- the set that stands before i in the order of this number; r are left to choose -/
def bfr (i : Nat) : Nat → Nat → Nat → Nat
  | 0, _, used => used
  | r + 1, left, used => if nth used (left % (r + 1)) = i then used else bfr i r (left / (r + 1)) (used ||| 2 ^ nth used (left % (r + 1)))
def elL (T : Nat) : List Nat := (List.range 6).filter (fun g => T.testBit g)
def el (T k : Nat) : Nat := (elL T).getD k 0
def EG (T S : Nat) : Nat := orf (fun j => if S.testBit j = true then 2 ^ el T j else 0) (pc T)
def EG1 (T S : Nat) : Nat := orf (fun j => if S.testBit (j + 1) = true then 2 ^ el T j else 0) (pc T)
theorem el_t : ∀ T, T < 64 → ∀ g, g < 6 → T.testBit g = true → el T (pc (T % 2 ^ g)) = g ∧ pc (T % 2 ^ g) < pc T ∧ pc (T % 2 ^ (g + 1)) = pc (T % 2 ^ g) + 1 := by decide +kernel
theorem el_f : ∀ T, T < 64 → ∀ g, g < 6 → ¬ T.testBit g = true → pc (T % 2 ^ (g + 1)) = pc (T % 2 ^ g) := by decide +kernel
theorem el_b : ∀ T, T < 64 → ∀ k, k < pc T → T.testBit (el T k) = true ∧ el T k < 6 ∧ pc (T % 2 ^ el T k) = k := by decide +kernel
