/-! Euclid, on both sides -/
theorem lI_toInt {a : Int} (h1 : -9223372036854775808 ≤ a) (h2 : a < 9223372036854775808) : (Int64.ofInt a).toInt = a := Int64.toInt_ofInt_of_le (by omega) (by omega)
theorem lI_0 : Int64.ofInt 0 = 0 := by decide +kernel
theorem lI_inj {a b : Int} (h1 : -9223372036854775808 ≤ a) (h2 : a < 9223372036854775808) (h3 : -9223372036854775808 ≤ b) (h4 : b < 9223372036854775808) : Int64.ofInt a = Int64.ofInt b ↔ a = b := by
  refine ⟨fun h => ?_, fun h => by rw [h]⟩
  have := congrArg Int64.toInt h
  rwa [lI_toInt h1 h2, lI_toInt h3 h4] at this
theorem lI_div {x y : Nat} (hx : x < 9223372036854775808) (hy : 0 < y) (hy2 : y < 9223372036854775808) : Int64.ofInt (x : Int) / Int64.ofInt (y : Int) = Int64.ofInt ((x / y : Nat) : Int) := by
  apply Int64.toInt_inj.mp
  have hd : x / y ≤ x := Nat.div_le_self x y
  rw [Int64.toInt_div, lI_toInt (by omega) (by omega), lI_toInt (by omega) (by omega), ← Int.ofNat_tdiv]
  generalize x / y = z at hd
  rw [lI_toInt (by omega) (by omega)]
  exact Int.bmod_eq_of_le (by omega) (by omega)
theorem lI_rem {x y : Nat} (hx : x < 9223372036854775808) (hy : 0 < y) (hy2 : y < 9223372036854775808) : Int64.ofInt (x : Int) - Int64.ofInt (x : Int) / Int64.ofInt (y : Int) * Int64.ofInt (y : Int) = Int64.ofInt ((x % y : Nat) : Int) := by
  rw [lI_div hx hy hy2, ← Int64.ofInt_mul, ← Int64.ofInt_sub]
  congr 1
  have := Nat.mod_add_div x y
  have h2 : (((x / y : Nat) : Int)) * (y : Int) = ((y * (x / y) : Nat) : Int) := by rw [Nat.mul_comm, Int.natCast_mul]
  rw [h2]
  omega
theorem cmp0 {a : Int} (h1 : -9223372036854775808 ≤ a) (h2 : a < 9223372036854775808) : lg_cmp (Int64.ofInt a) 0 = if 0 < a then 1 else if a = 0 then 0 else -1 := by
  unfold lg_cmp
  have e1 : (Int64.ofInt a > 0) ↔ 0 < a := by
    show (0 : Int64) < Int64.ofInt a ↔ _
    rw [Int64.lt_iff_toInt_lt, lI_toInt h1 h2]
    exact Iff.rfl
  have e2 : (Int64.ofInt a = 0) ↔ a = 0 := by
    rw [← lI_0]
    exact lI_inj h1 h2 (by omega) (by omega)
  simp only [e1, e2]
theorem mod_half {x y : Nat} (hy : 0 < y) (hr : 0 < x % y) {k : Nat} (h : y < 2 ^ (k + 1)) : y % (x % y) < 2 ^ k := by
  have h1 : x % y < y := Nat.mod_lt x hy
  have h2 : y % (x % y) < x % y := Nat.mod_lt y hr
  have h3 : y % (x % y) ≤ y - x % y := by
    rw [Nat.mod_eq_sub_mod (by omega)]
    exact Nat.mod_le _ _
  rw [Nat.pow_succ] at h
  omega
theorem gcd_step (x y : Nat) : Nat.gcd x y = Nat.gcd y (x % y) := by
  rw [Nat.gcd_comm x y, Nat.gcd_rec y x, Nat.gcd_comm]
theorem part_loop : ∀ (k x y fu : Nat), x < 9223372036854775808 → y < 9223372036854775808 → y < 2 ^ k → 2 * k < fu → ∃ z, itr fu (fun s => p_Md_part_L17 s.1 s.2) (Int64.ofInt (x : Int), Int64.ofInt (y : Int)) = some (Int64.ofInt ((Nat.gcd x y : Nat) : Int), z) := by
  have one : ∀ (x y : Nat), x < 9223372036854775808 → 0 < y → y < 9223372036854775808 → p_Md_part_L17 (Int64.ofInt (x : Int)) (Int64.ofInt (y : Int)) = some (.inl (Int64.ofInt (y : Int), Int64.ofInt ((x % y : Nat) : Int))) := fun x y hx hy hy2 => by
    have c1 : ¬ lg_cmp (Int64.ofInt (y : Int)) 0 = 0 := by rw [cmp0 (by omega) (by omega), if_pos (by omega)]; decide
    have c2 : ¬ Int64.ofInt (y : Int) = 0 := by rw [← lI_0, lI_inj (by omega) (by omega) (by omega) (by omega)]; omega
    simp only [p_Md_part_L17, c1, c2, not_false_eq_true, decide_true, chk_true, lI_rem hx hy hy2, ↓reduceIte]
  have zero : ∀ (x : Nat), p_Md_part_L17 (Int64.ofInt (x : Int)) (Int64.ofInt ((0 : Nat) : Int)) = some (.inr (Int64.ofInt (x : Int), Int64.ofInt ((0 : Nat) : Int))) := fun x => by
    have c1 : lg_cmp (Int64.ofInt ((0 : Nat) : Int)) 0 = 0 := by rw [cmp0 (by omega) (by omega)]; rfl
    simp only [p_Md_part_L17, c1, ↓reduceIte]
  intro k
  induction k with
  | zero =>
    intro x y fu hx hy h hf
    obtain ⟨fu, rfl⟩ : ∃ m, fu = m + 1 := ⟨fu - 1, by omega⟩
    obtain rfl : y = 0 := by omega
    refine ⟨Int64.ofInt ((0 : Nat) : Int), ?_⟩
    rw [itr, Nat.gcd_zero_right]
    simp only [zero]
  | succ k ih =>
    intro x y fu hx hy h hf
    obtain ⟨fu, rfl⟩ : ∃ m, fu = m + 1 := ⟨fu - 1, by omega⟩
    by_cases e : y = 0
    · subst e
      refine ⟨Int64.ofInt ((0 : Nat) : Int), ?_⟩
      rw [itr, Nat.gcd_zero_right]
      simp only [zero]
    · have hlt : x % y < y := Nat.mod_lt x (by omega)
      rw [itr]
      simp only [one x y hx (by omega) hy]
      obtain ⟨fu, rfl⟩ : ∃ m, fu = m + 1 := ⟨fu - 1, by omega⟩
      rw [gcd_step]
      by_cases e2 : x % y = 0
      · rw [e2, itr, Nat.gcd_zero_right]
        simp only [zero]
        exact ⟨_, rfl⟩
      · rw [itr]
        simp only [one y (x % y) hy (by omega) (by omega)]
        rw [gcd_step]
        exact ih (x % y) (y % (x % y)) fu (by omega) (Nat.lt_of_le_of_lt (Nat.mod_le _ _) hy) (mod_half (by omega) (by omega) h) (by omega)
theorem div_loop : ∀ (k x y i fu : Nat), x < 9223372036854775808 → y < 9223372036854775808 → y < 2 ^ k → 2 * k < fu → i + 2 * k < 100 → ∃ z, itr fu (fun s => p_ES_commonDivisor_L9 s.1 s.2.1 s.2.2) (Int64.ofInt (x : Int), Int64.ofInt (y : Int), nI i) = some (Int64.ofInt ((Nat.gcd x y : Nat) : Int), z) := by
  have one : ∀ (x y i : Nat), i < 100 → x < 9223372036854775808 → 0 < y → y < 9223372036854775808 → p_ES_commonDivisor_L9 (Int64.ofInt (x : Int)) (Int64.ofInt (y : Int)) (nI i) = some (.inl (Int64.ofInt (y : Int), Int64.ofInt ((x % y : Nat) : Int), nI (i + 1))) := fun x y i hi hx hy hy2 => by
    have c0 : ¬ (100 : Int32) ≤ nI i := nI_ge (b := 100) hi (by omega)
    have c1 : ¬ lg_cmp (Int64.ofInt (y : Int)) 0 = 0 := by rw [cmp0 (by omega) (by omega), if_pos (by omega)]; decide
    have c2 : ¬ Int64.ofInt (y : Int) = 0 := by rw [← lI_0, lI_inj (by omega) (by omega) (by omega) (by omega)]; omega
    simp only [p_ES_commonDivisor_L9, c0, c1, c2, not_false_eq_true, decide_true, chk_true, lI_rem hx hy hy2, nI_1, ↓reduceIte]
  have zero : ∀ (x i : Nat), i < 100 → p_ES_commonDivisor_L9 (Int64.ofInt (x : Int)) (Int64.ofInt ((0 : Nat) : Int)) (nI i) = some (.inr (Int64.ofInt (x : Int), Int64.ofInt ((0 : Nat) : Int), nI i)) := fun x i hi => by
    have c0 : ¬ (100 : Int32) ≤ nI i := nI_ge (b := 100) hi (by omega)
    have c1 : lg_cmp (Int64.ofInt ((0 : Nat) : Int)) 0 = 0 := by rw [cmp0 (by omega) (by omega)]; rfl
    simp only [p_ES_commonDivisor_L9, c0, c1, ↓reduceIte]
  intro k
  induction k with
  | zero =>
    intro x y i fu hx hy h hf hi
    obtain ⟨fu, rfl⟩ : ∃ m, fu = m + 1 := ⟨fu - 1, by omega⟩
    obtain rfl : y = 0 := by omega
    refine ⟨(Int64.ofInt ((0 : Nat) : Int), nI i), ?_⟩
    rw [itr, Nat.gcd_zero_right]
    simp only [zero x i (by omega)]
  | succ k ih =>
    intro x y i fu hx hy h hf hi
    obtain ⟨fu, rfl⟩ : ∃ m, fu = m + 1 := ⟨fu - 1, by omega⟩
    by_cases e : y = 0
    · subst e
      refine ⟨(Int64.ofInt ((0 : Nat) : Int), nI i), ?_⟩
      rw [itr, Nat.gcd_zero_right]
      simp only [zero x i (by omega)]
    · have hlt : x % y < y := Nat.mod_lt x (by omega)
      rw [itr]
      simp only [one x y i (by omega) hx (by omega) hy]
      obtain ⟨fu, rfl⟩ : ∃ m, fu = m + 1 := ⟨fu - 1, by omega⟩
      rw [gcd_step]
      by_cases e2 : x % y = 0
      · rw [e2, itr, Nat.gcd_zero_right]
        simp only [zero y (i + 1) (by omega)]
        exact ⟨_, rfl⟩
      · rw [itr]
        simp only [one y (x % y) (i + 1) (by omega) hy (by omega) (by omega)]
        rw [gcd_step]
        exact ih (x % y) (y % (x % y)) (i + 1 + 1) fu (by omega) (Nat.lt_of_le_of_lt (Nat.mod_le _ _) hy) (mod_half (by omega) (by omega) h) (by omega) (by omega)
/-- a fraction is told alike -/
theorem told_part {a : Int} {b : Nat} {pt : Int32} {M M' : Mem} (h1 : -4611686018427387904 ≤ a) (h2 : a ≤ 4611686018427387904) (hb : 0 < b) (hb2 : b < 65536) : ∃ v, p_ES_told (Int64.ofInt a) (Int64.ofInt (b : Int)) pt M = some (some v) ∧ p_Md_part (Int64.ofInt a) (Int64.ofInt (b : Int)) pt M' = some v := by
  obtain ⟨z1, e1⟩ := div_loop 16 a.natAbs b 0 zfu (by omega) (by omega) (by omega) (zfu_gt (by omega)) (by omega)
  obtain ⟨z2, e2⟩ := part_loop 16 a.natAbs b zfu (by omega) (by omega) (by omega) (zfu_gt (by omega))
  have hg : 0 < Nat.gcd a.natAbs b := Nat.gcd_pos_of_pos_right _ hb
  have hg2 : Nat.gcd a.natAbs b ≤ b := Nat.gcd_le_right _ hb
  generalize Nat.gcd a.natAbs b = g at e1 e2 hg hg2
  have e1 : itr zfu (fun s => p_ES_commonDivisor_L9 s.1 s.2.1 s.2.2) (Int64.ofInt (a.natAbs : Int), Int64.ofInt (b : Int), (0 : Int32)) = some (Int64.ofInt (g : Int), z1) := e1
  have hn : ¬ Int64.ofInt (g : Int) = 0 := by rw [← lI_0, lI_inj (by omega) (by omega) (by omega) (by omega)]; omega
  have cb : (0 : Int32) < lg_cmp (Int64.ofInt (b : Int)) 0 := by rw [cmp0 (by omega) (by omega), if_pos (by omega)]; decide
  have cg : (0 : Int32) < lg_cmp (Int64.ofInt (g : Int)) 0 := by rw [cmp0 (by omega) (by omega), if_pos (by omega)]; decide
  have ab : (if 0 < Int64.ofInt a then Int64.ofInt a else -Int64.ofInt a) = Int64.ofInt (a.natAbs : Int) := by
    have : (0 : Int64) < Int64.ofInt a ↔ 0 < a := by
      rw [Int64.lt_iff_toInt_lt, lI_toInt (by omega) (by omega)]
      exact Iff.rfl
    by_cases c : 0 < a
    · rw [if_pos (this.mpr c)]; congr 1; omega
    · rw [if_neg (mt this.mp c), ← Int64.ofInt_neg]; congr 1; omega
  have ec : p_ES_commonDivisor (Int64.ofInt (a.natAbs : Int)) (Int64.ofInt (b : Int)) M = some (Int64.ofInt (g : Int)) := by
    unfold p_ES_commonDivisor
    rw [bnd_e e1]
  have hT : ∀ w : Int64, w = Int64.ofInt (a.natAbs : Int) → bnd (itr zfu (fun s => p_Md_part_L17 s.1 s.2) (w, Int64.ofInt (b : Int))) (fun q2 => if pt = 0 then chk (decide (¬ q2.1 = 0)) <| some (Int64.ofInt a / q2.1) else chk (decide (¬ q2.1 = 0)) <| some (Int64.ofInt (b : Int) / q2.1)) = some (if pt = 0 then Int64.ofInt a / Int64.ofInt (g : Int) else Int64.ofInt (b : Int) / Int64.ofInt (g : Int)) := fun w hw => by
    rw [hw, bnd_e e2]
    dsimp only
    simp only [hn, not_false_eq_true, decide_true, chk_true]
    split <;> rfl
  refine ⟨if pt = 0 then Int64.ofInt a / Int64.ofInt (g : Int) else Int64.ofInt (b : Int) / Int64.ofInt (g : Int), ?_, ?_⟩
  · unfold p_ES_told
    rw [if_pos cb, ab, bnd_e ec, if_pos cg]
    simp only [hn, not_false_eq_true, decide_true, chk_true]
    split <;> rfl
  · unfold p_Md_part
    by_cases c : 0 ≤ a
    · rw [if_pos (by rw [cmp0 (by omega) (by omega)]; split; decide; rw [if_pos (by omega)]; decide)]
      exact hT _ (by congr 1; omega)
    · rw [if_neg (by rw [cmp0 (by omega) (by omega), if_neg (by omega), if_neg (by omega)]; decide)]
      exact hT _ (by rw [← Int64.ofInt_neg]; congr 1; omega)
theorem told_none {a : Int64} {pt : Int32} {M : Mem} : p_ES_told a 0 pt M = some none := by
  unfold p_ES_told
  rw [if_neg (by decide)]
