/-! sets as bits -/
def orf (f : Nat → Nat) : Nat → Nat
  | 0 => 0
  | k + 1 => orf f k ||| f k
theorem orf_lt {f : Nat → Nat} : ∀ {k : Nat}, (∀ i, i < k → f i < 64) → orf f k < 64 := by
  intro k
  induction k with
  | zero => intro _; show (0 : Nat) < 64; omega
  | succ k ih => intro h; exact Nat.or_lt_two_pow (n := 6) (ih (fun i hi => h i (by omega))) (h k (by omega))
theorem orf_congr {f g : Nat → Nat} : ∀ {k : Nat}, (∀ i, i < k → f i = g i) → orf f k = orf g k := by
  intro k
  induction k with
  | zero => intro _; rfl
  | succ k ih => intro h; show orf f k ||| f k = orf g k ||| g k; rw [ih (fun i hi => h i (by omega)), h k (by omega)]
theorem orf_bit {f : Nat → Nat} {j : Nat} : ∀ {k : Nat}, (orf f k).testBit j = true ↔ ∃ i, i < k ∧ (f i).testBit j = true := by
  intro k
  induction k with
  | zero => simp [orf]
  | succ k ih =>
    rw [orf, Nat.testBit_or, Bool.or_eq_true, ih]
    refine ⟨fun h => ?_, fun ⟨i, h1, h2⟩ => ?_⟩
    · rcases h with ⟨i, h1, h2⟩ | h
      · exact ⟨i, by omega, h2⟩
      · exact ⟨k, by omega, h⟩
    · by_cases e : i = k
      · exact Or.inr (e ▸ h2)
      · exact Or.inl ⟨i, by omega, h2⟩
def gr (V : Vw) (c : Nat) : Nat := (V 8 c).toNatClampNeg
def thN (n : Nat) (V : Vw) : Nat := orf (fun c => 2 ^ gr V c) n
def colN (n : Nat) (V : Vw) (P : Nat) : Nat := orf (fun c => if P.testBit (gr V c) = true then 2 ^ c else 0) n
def gbN (n : Nat) (V : Vw) (g : Nat) : Nat := orf (fun c => if gr V c = g then 2 ^ c else 0) n
theorem pw_lt {c : Nat} (h : c < 6) : 2 ^ c < 64 := Nat.pow_lt_pow_right (by omega) h
theorem pw_bit {a b : Nat} : (2 ^ a).testBit b = true ↔ a = b := by rw [Nat.testBit_two_pow, decide_eq_true_eq]
theorem bits_ext {a b : Nat} (ha : a < 64) (hb : b < 64) (h : ∀ j, j < 6 → (a.testBit j = true ↔ b.testBit j = true)) : a = b := by
  refine Nat.eq_of_testBit_eq (fun j => ?_)
  by_cases hj : j < 6
  · exact Bool.eq_iff_iff.mpr (h j hj)
  · rw [Nat.testBit_lt_two_pow (Nat.lt_of_lt_of_le ha (Nat.pow_le_pow_right (n := 2) (by omega) (show 6 ≤ j by omega))), Nat.testBit_lt_two_pow (Nat.lt_of_lt_of_le hb (Nat.pow_le_pow_right (n := 2) (by omega) (show 6 ≤ j by omega)))]
theorem gb_col {n : Nat} {V : Vw} {g : Nat} : gbN n V g = colN n V (2 ^ g) := orf_congr (fun c _ => by
  by_cases e : gr V c = g
  · rw [if_pos e, if_pos (pw_bit.mpr e.symm)]
  · rw [if_neg e, if_neg (fun h => e (pw_bit.mp h).symm)])
theorem or1 {X g : Nat} (hg : g < 7) : nI X ||| ((1 : Int32) <<< (nI g &&& 31)) = nI (X ||| 2 ^ g) := by rw [shl_t g hg, nI_or]
def pc (P : Nat) : Nat := P % 2 + P / 2 % 2 + P / 4 % 2 + P / 8 % 2 + P / 16 % 2 + P / 32 % 2
theorem bc_t : ∀ P, P < 64 → p_In_bitCount (nI P) (fun _ _ => 0, fun _ _ => 0) = some (nI (pc P)) := by decide +kernel
theorem e_bitCount {M : Mem} {P : Nat} (h : P < 64) : p_In_bitCount (nI P) M = some (nI (pc P)) := bc_t P h
theorem pc_le {P : Nat} : pc P ≤ 6 := by unfold pc; omega
def oth (T g : Nat) : Nat := T &&& (63 ^^^ 2 ^ g)
theorem oth_t : ∀ T, T < 64 → ∀ g, g < 6 → nI T &&& (((1 : Int32) <<< (nI g &&& 31)) ^^^ (-1 : Int32)) = nI (oth T g) ∧ oth T g < 64 := by decide +kernel
theorem sub_t : ∀ c, c < 64 → ∀ o, o < 64 → ((nI c &&& (nI o ^^^ (-1 : Int32))) = 0 ↔ c &&& o = c) := by decide +kernel
def fct : Nat → Nat
  | 0 => 1
  | k + 1 => (k + 1) * fct k
theorem fct_t : ∀ k, k < 7 → p_ES_factorial (nI k) (fun _ _ => 0, fun _ _ => 0) = some (Int64.ofInt (fct k : Int)) := by decide +kernel
theorem e_fct {M : Mem} {k : Nat} (h : k < 7) : p_ES_factorial (nI k) M = some (Int64.ofInt (fct k : Int)) := fct_t k h
theorem nI_sub {a b : Nat} (h : b ≤ a) : nI a - nI b = nI (a - b) := by
  have : nI a = nI (a - b) + nI b := by rw [nI_add]; congr 1; omega
  rw [this, Int32.add_sub_cancel]
theorem e_around {M : Mem} {P m : Nat} (hP : P < 64) (hm : m < 7) (h : pc P ≤ m) : p_Me_ordersAround (nI P) (nI m) M = some (Int64.ofInt ((fct (pc P) * fct (m - pc P) : Nat) : Int)) := by
  unfold p_Me_ordersAround
  rw [bnd_e (e_bitCount hP), bnd_e (e_fct (Nat.lt_of_le_of_lt h hm)), nI_sub h, bnd_e (e_fct (by omega)), Int.natCast_mul, Int64.ofInt_mul]
section PS
variable {n N R B : Nat} {V : Vw} {M : Mem}
theorem gr_lt (W : WF n N R B V) {c : Nat} (hc : c < 6) : gr V c < 6 ∧ V 8 c = nI (gr V c) ∧ (c < n → gr V c < n) := by
  obtain ⟨h1, h2⟩ := W.2.2.2.2.2.2.1 c hc
  obtain ⟨e1, e2⟩ := inb_eq h1
  exact ⟨e2, e1, fun h => (inb_eq (h2 h)).2⟩
theorem thN_lt (W : WF n N R B V) : thN n V < 64 := orf_lt (fun c hc => pw_lt (gr_lt W (by have := W.2.1; omega)).1)
theorem colN_lt (W : WF n N R B V) {P : Nat} : colN n V P < 64 := orf_lt (fun c hc => by
  have := W.2.1
  split
  · exact pw_lt (by omega)
  · decide)
theorem gbN_lt (W : WF n N R B V) {g : Nat} : gbN n V g < 64 := by rw [gb_col]; exact colN_lt W
theorem thN_bit {g : Nat} : (thN n V).testBit g = true ↔ ∃ c, c < n ∧ gr V c = g := by
  rw [thN, orf_bit]
  exact ⟨fun ⟨c, h1, h2⟩ => ⟨c, h1, pw_bit.mp h2⟩, fun ⟨c, h1, h2⟩ => ⟨c, h1, pw_bit.mpr h2⟩⟩
theorem colN_bit {P c : Nat} : (colN n V P).testBit c = true ↔ c < n ∧ P.testBit (gr V c) = true := by
  rw [colN, orf_bit]
  refine ⟨fun ⟨i, h1, h2⟩ => ?_, fun ⟨h1, h2⟩ => ⟨c, h1, by rw [if_pos h2]; exact pw_bit.mpr rfl⟩⟩
  by_cases e : P.testBit (gr V i) = true
  · rw [if_pos e] at h2
    obtain rfl := pw_bit.mp h2
    exact ⟨h1, e⟩
  · rw [if_neg e, Nat.zero_testBit] at h2
    cases h2
theorem gbN_bit {g c : Nat} : (gbN n V g).testBit c = true ↔ c < n ∧ gr V c = g := by
  rw [gb_col, colN_bit, pw_bit]
  exact ⟨fun ⟨a, b⟩ => ⟨a, b.symm⟩, fun ⟨a, b⟩ => ⟨a, b.symm⟩⟩
theorem colN_or (W : WF n N R B V) {P Q : Nat} : colN n V (P ||| Q) = colN n V P ||| colN n V Q := by
  refine bits_ext (colN_lt W) (Nat.or_lt_two_pow (n := 6) (colN_lt W) (colN_lt W)) (fun j _ => ?_)
  rw [Nat.testBit_or, Bool.or_eq_true, colN_bit, colN_bit, colN_bit, Nat.testBit_or, Bool.or_eq_true]
  exact ⟨fun ⟨a, b⟩ => b.imp (fun h => ⟨a, h⟩) (fun h => ⟨a, h⟩), fun h => h.elim (fun ⟨a, b⟩ => ⟨a, Or.inl b⟩) (fun ⟨a, b⟩ => ⟨a, Or.inr b⟩)⟩
theorem e_there (W : WF n N R B V) (C : RC N R B V M) : p_Gr_there M = some (nI (thN n V)) := by
  have hb := W.2.1
  have h1 : itr zfu (fun s => p_Gr_there_L4 M s.1 s.2) ((0 : Int32), (0 : Int32)) = some (nI (thN n V), nI n) := by
    refine itr_st (fun i => (nI (orf (fun c => 2 ^ gr V c) i), nI i)) n (zfu_gt (by omega)) (fun i hi => ?_) ?_
    · have k1 : ¬ M.1 17 0 ≤ nI i := by rw [C.1.2.1, W.1.1]; exact nI_ge (by omega) (by omega)
      have k2 : inb (nI i) 6 = true := inb_nI (by omega) (by omega)
      obtain ⟨g1, g2, -⟩ := gr_lt W (show i < 6 by omega)
      simp only [p_Gr_there_L4, k1, k2, chk_true, nI_clamp (show i < 2 ^ 31 by omega), C.2.2.2.2.2.2.1 i (by omega), g2, or1 (show gr V i < 7 by omega), nI_1, orf, ↓reduceIte]
    · have k1 : M.1 17 0 ≤ nI n := by rw [C.1.2.1, W.1.1]; exact nI_le (by omega) (by omega)
      simp only [p_Gr_there_L4, k1, ↓reduceIte]
      rfl
  unfold p_Gr_there
  rw [bnd_e h1]
theorem e_columnsOf (W : WF n N R B V) (C : RC N R B V M) {P : Nat} (hP : P < 64) : p_Gr_columnsOf (nI P) M = some (nI (colN n V P)) := by
  have hb := W.2.1
  have h1 : itr zfu (fun s => p_Gr_columnsOf_L4 (nI P) M s.1 s.2) ((0 : Int32), (0 : Int32)) = some (nI (colN n V P), nI n) := by
    refine itr_st (fun i => (nI (orf (fun c => if P.testBit (gr V c) = true then 2 ^ c else 0) i), nI i)) n (zfu_gt (by omega)) (fun i hi => ?_) ?_
    · have k1 : ¬ M.1 17 0 ≤ nI i := by rw [C.1.2.1, W.1.1]; exact nI_ge (by omega) (by omega)
      have k2 : inb (nI i) 6 = true := inb_nI (by omega) (by omega)
      obtain ⟨g1, g2, -⟩ := gr_lt W (show i < 6 by omega)
      by_cases cb : P.testBit (gr V i) = true
      · have cb' := (bit_t P hP _ g1).mpr cb
        simp only [p_Gr_columnsOf_L4, k1, k2, chk_true, nI_clamp (show i < 2 ^ 31 by omega), C.2.2.2.2.2.2.1 i (by omega), g2, cb', cb, or1 (show i < 7 by omega), nI_1, orf, ↓reduceIte]
      · have cb' := mt (bit_t P hP _ g1).mp cb
        simp only [p_Gr_columnsOf_L4, k1, k2, chk_true, nI_clamp (show i < 2 ^ 31 by omega), C.2.2.2.2.2.2.1 i (by omega), g2, cb', cb, nI_1, orf, Nat.or_zero, ↓reduceIte, Bool.false_eq_true]
    · have k1 : M.1 17 0 ≤ nI n := by rw [C.1.2.1, W.1.1]; exact nI_le (by omega) (by omega)
      simp only [p_Gr_columnsOf_L4, k1, ↓reduceIte]
      rfl
  unfold p_Gr_columnsOf
  rw [bnd_e h1]
theorem e_groupBits (W : WF n N R B V) (T : RT V M) {g : Nat} (hg : g < 6) : p_Md_groupBits (nI g) M = some (nI (gbN n V g)) := by
  have hb := W.2.1
  have t8 : M.1 8 = V 8 := T.1 8 (by omega) (by omega)
  have h1 : itr zfu (fun s => p_Md_groupBits_L4 (nI g) M s.1 s.2) ((0 : Int32), (0 : Int32)) = some (nI (gbN n V g), nI n) := by
    refine itr_st (fun i => (nI (orf (fun c => if gr V c = g then 2 ^ c else 0) i), nI i)) n (zfu_gt (by omega)) (fun i hi => ?_) ?_
    · have k1 : ¬ M.1 0 1 ≤ nI i := by rw [T.2.1, W.1.1]; exact nI_ge (by omega) (by omega)
      have k2 : inb (nI i) 6 = true := inb_nI (by omega) (by omega)
      obtain ⟨g1, g2, -⟩ := gr_lt W (show i < 6 by omega)
      have ee : nI (gr V i) = nI g ↔ gr V i = g := nI_eq (by omega) (by omega)
      by_cases cb : gr V i = g
      · simp only [p_Md_groupBits_L4, k1, k2, chk_true, nI_clamp (show i < 2 ^ 31 by omega), t8, g2, ee, cb, or1 (show i < 7 by omega), nI_1, orf, ↓reduceIte]
      · simp only [p_Md_groupBits_L4, k1, k2, chk_true, nI_clamp (show i < 2 ^ 31 by omega), t8, g2, ee, cb, nI_1, orf, Nat.or_zero, Int32.or_zero, ↓reduceIte]
    · have k1 : M.1 0 1 ≤ nI n := by rw [T.2.1, W.1.1]; exact nI_le (by omega) (by omega)
      simp only [p_Md_groupBits_L4, k1, ↓reduceIte]
      rfl
  unfold p_Md_groupBits
  rw [bnd_e h1]
theorem e_count (W : WF n N R B V) (C : RC N R B V M) : p_Gr_count M = some (nI (pc (thN n V))) := by
  unfold p_Gr_count
  rw [bnd_e (e_there W C), bnd_e (e_bitCount (thN_lt W))]
end PS
