/-! the reference's parts and orders -/
def XO (M M' : Mem) : Prop := M'.2 = M.2 ∧ (∀ k, k ≠ 0 → k ≠ 13 → k ≠ 14 → M'.1 k = M.1 k) ∧ ∀ j, j ≠ 17 → M'.1 0 j = M.1 0 j
theorem XO.rf {M : Mem} : XO M M := ⟨rfl, fun _ _ _ _ => rfl, fun _ _ => rfl⟩
theorem XO.tr {M M' M'' : Mem} (h : XO M M') (h' : XO M' M'') : XO M M'' := ⟨h'.1.trans h.1, fun k a b c => (h'.2.1 k a b c).trans (h.2.1 k a b c), fun j hj => (h'.2.2 j hj).trans (h.2.2 j hj)⟩
theorem XO.w {M M' : Mem} (h : XO M M') {k : Nat} {i v : Int32} (hk : k = 13 ∨ k = 14) : XO M (wI M' k i v) := ⟨h.1, fun q a b c => by
  show (if q = k then _ else M'.1 q) = _
  rw [if_neg (by omega)]
  exact h.2.1 q a b c, fun j hj => by
  show (if 0 = k then _ else M'.1 0) j = _
  rw [if_neg (by omega)]
  exact h.2.2 j hj⟩
theorem XO.f {M M' : Mem} (h : XO M M') {v : Int32} : XO M (wF M' 0 17 v) := ⟨h.1, fun q a b c => by
  show (if q = 0 then _ else M'.1 q) = _
  rw [if_neg a]
  exact h.2.1 q a b c, fun j hj => by
  show (if 0 = 0 then upd (M'.1 0) 17 v else M'.1 0) j = _
  rw [if_pos rfl]
  show (if j = 17 then v else M'.1 0 j) = _
  rw [if_neg hj]
  exact h.2.2 j hj⟩
theorem RT.o {V : Vw} {M M' : Mem} (T : RT V M) (h : XO M M') : RT V M' := T.of (fun k a b => h.2.1 k (by omega) (by omega) (by omega)) (fun j hj => h.2.2 j (by omega))
theorem wI_ne {M : Mem} {k q : Nat} {i v : Int32} (h : q ≠ k) : (wI M k i v).1 q = M.1 q := by
  show (if q = k then _ else M.1 q) = _
  rw [if_neg h]
theorem wF_ne {M : Mem} {k q j : Nat} {v : Int32} (h : q ≠ k) : (wF M k j v).1 q = M.1 q := by
  show (if q = k then _ else M.1 q) = _
  rw [if_neg h]
theorem wF_at {M : Mem} {k j : Nat} {v : Int32} : (wF M k j v).1 k j = v := by
  show (if k = k then upd (M.1 k) j v else M.1 k) j = _
  rw [if_pos rfl]
  show (if j = j then v else _) = v
  rw [if_pos rfl]
theorem nI_and (a b : Nat) : nI a &&& nI b = nI (a &&& b) := by
  apply Int32.toBitVec_inj.mp
  rw [Int32.toBitVec_and]
  show BitVec.ofNat 32 a &&& BitVec.ofNat 32 b = BitVec.ofNat 32 (a &&& b)
  exact Eq.symm BitVec.ofNat_and
theorem nI_z {a : Nat} (h : a < 2 ^ 31) : nI a = 0 ↔ a = 0 := by rw [← nI_0]; exact nI_eq h (by omega)
theorem nI_div {x y : Nat} (hx : x < 2 ^ 31) (hy : 0 < y) (hy2 : y < 2 ^ 31) : nI x / nI y = nI (x / y) := by
  apply Int32.toInt_inj.mp
  have hd : x / y ≤ x := Nat.div_le_self x y
  rw [Int32.toInt_div, nI_toInt hx, nI_toInt hy2, ← Int.ofNat_tdiv]
  generalize x / y = z at hd
  rw [nI_toInt (by omega)]
  exact Int.bmod_eq_of_le (by omega) (by omega)
theorem nI_rem {x y : Nat} (hx : x < 2 ^ 31) (hy : 0 < y) (hy2 : y < 2 ^ 31) : nI x - nI x / nI y * nI y = nI (x % y) := by
  rw [nI_div hx hy hy2, nI_mul, nI_sub (Nat.div_mul_le_self x y)]
  congr 1
  have := Nat.mod_add_div x y
  rw [Nat.mul_comm] at this
  omega
theorem least {p : Nat → Prop} [DecidablePred p] : ∀ {m : Nat}, (∃ k, k < m ∧ p k) → ∃ k, k < m ∧ p k ∧ ∀ j, j < k → ¬ p j := by
  intro m
  induction m with
  | zero => intro ⟨k, h, _⟩; omega
  | succ m ih =>
    intro ⟨k, h1, h2⟩
    by_cases e : ∃ k, k < m ∧ p k
    · obtain ⟨k, a, b, c⟩ := ih e
      exact ⟨k, by omega, b, c⟩
    · exact ⟨k, h1, h2, fun j hj hp => e ⟨j, by omega, hp⟩⟩
def lay (m w : Nat) : Nat → Nat × Nat
  | 0 => (w, 0)
  | k + 1 => ((lay m w k).1 / (m - k), (lay m w k).2 ||| 2 ^ nth (lay m w k).2 ((lay m w k).1 % (m - k)))
def ordf (m w k : Nat) : Nat := nth (lay m w k).2 ((lay m w k).1 % (m - k))
theorem nth_t : ∀ m, m < 7 → ∀ used, used < 2 ^ m → ∀ pick, pick < 6 → pick + pc used < m → nth used pick < m ∧ pc (used ||| 2 ^ nth used pick) = pc used + 1 := by decide +kernel
theorem full_t : ∀ m, m < 7 → ∀ used, used < 2 ^ m → pc used = m → ∀ i, i < m → used.testBit i = true := by decide +kernel
theorem at_t : ∀ used, used < 64 → ∀ pick, pick < 6 → pick + pc used < 6 → itr zfu (fun s => p_Md_layOrder_L40 (nI used) s.1 s.2) (nI pick, (0 : Int32)) = some (nI 0, nI (nth used pick)) := by decide +kernel
theorem lay_ok {m w : Nat} (hm : m < 7) : ∀ k, k ≤ m → (lay m w k).2 < 2 ^ m ∧ pc (lay m w k).2 = k ∧ (lay m w k).1 ≤ w ∧ (lay m w k).2 = orf (fun j => 2 ^ ordf m w j) k := by
  intro k
  induction k with
  | zero => intro _; exact ⟨Nat.pow_pos (by omega), (by show pc 0 = 0; decide), Nat.le_refl _, rfl⟩
  | succ k ih =>
    intro hk
    obtain ⟨h1, h2, h3, h4⟩ := ih (by omega)
    have hp : (lay m w k).1 % (m - k) < m - k := Nat.mod_lt _ (by omega)
    obtain ⟨n1, n2⟩ := nth_t m hm _ h1 ((lay m w k).1 % (m - k)) (by omega) (by omega)
    refine ⟨?_, ?_, ?_, ?_⟩
    · exact Nat.or_lt_two_pow h1 (Nat.pow_lt_pow_right (by omega) n1)
    · rw [lay]; show pc _ = _; rw [n2, h2]
    · rw [lay]; exact Nat.le_trans (Nat.div_le_self _ _) h3
    · rw [lay, orf, ← h4]; rfl
theorem ord_lt {m w k : Nat} (hm : m < 7) (hk : k < m) : ordf m w k < m := by
  obtain ⟨h1, h2, h3, h4⟩ := lay_ok (w := w) hm k (by omega)
  have hp : (lay m w k).1 % (m - k) < m - k := Nat.mod_lt _ (by omega)
  exact (nth_t m hm _ h1 ((lay m w k).1 % (m - k)) (by omega) (by omega)).1
theorem ord_at {m w i : Nat} (hm : m < 7) (hi : i < m) : ∃ k, k < m ∧ ordf m w k = i ∧ ∀ j, j < k → ¬ ordf m w j = i := by
  obtain ⟨h1, h2, h3, h4⟩ := lay_ok (w := w) hm m (Nat.le_refl m)
  have := full_t m hm _ h1 h2 i hi
  rw [h4, orf_bit] at this
  obtain ⟨k, a, b⟩ := this
  exact least ⟨k, a, pw_bit.mp b⟩
theorem bfr_at {m w i : Nat} : ∀ (d k0 : Nat), k0 < m → ordf m w k0 = i → (∀ j, j < k0 → ¬ ordf m w j = i) → ∀ k, k + d = k0 → bfr i (m - k) (lay m w k).1 (lay m w k).2 = (lay m w k0).2 := by
  intro d
  induction d with
  | zero =>
    intro k0 hk h1 h2 k e
    obtain rfl : k = k0 := by omega
    obtain ⟨r, hr⟩ : ∃ r, m - k = r + 1 := ⟨m - k - 1, by omega⟩
    have h1 : nth (lay m w k).2 ((lay m w k).1 % (m - k)) = i := h1
    rw [hr] at h1 ⊢
    rw [bfr, if_pos h1]
  | succ d ih =>
    intro k0 hk h1 h2 k e
    have h3 : ¬ nth (lay m w k).2 ((lay m w k).1 % (m - k)) = i := h2 k (by omega)
    have h4 := ih k0 hk h1 h2 (k + 1) (by omega)
    obtain ⟨r, hr⟩ : ∃ r, m - k = r + 1 := ⟨m - k - 1, by omega⟩
    rw [lay] at h4
    rw [hr] at h3 ⊢
    rw [bfr, if_neg h3, ← h4, hr, show m - (k + 1) = r by omega]
theorem bef_idx {m w i : Nat} (hm : m < 7) (hi : i < m) : ∃ k0, k0 < m ∧ ordf m w k0 = i ∧ (∀ j, j < k0 → ¬ ordf m w j = i) ∧ bfr i m w 0 = orf (fun j => 2 ^ ordf m w j) k0 := by
  obtain ⟨k0, a, b, c⟩ := ord_at (w := w) hm hi
  refine ⟨k0, a, b, c, ?_⟩
  have := bfr_at k0 k0 a b c 0 (by omega)
  rw [← (lay_ok (w := w) hm k0 (by omega)).2.2.2]
  exact this
/-- parts of a set of places -/
def EP (pt : Nat → Nat) (m S : Nat) : Nat := orf (fun j => if S.testBit j = true then pt j else 0) m
theorem EP_lt {pt : Nat → Nat} {m S : Nat} (h : ∀ j, j < m → pt j < 64) : EP pt m S < 64 := orf_lt (fun j hj => by
  split
  · exact h j hj
  · omega)
theorem EP_bit {pt : Nat → Nat} {m S c : Nat} : (EP pt m S).testBit c = true ↔ ∃ j, j < m ∧ S.testBit j = true ∧ (pt j).testBit c = true := by
  rw [EP, orf_bit]
  refine ⟨fun ⟨j, a, b⟩ => ?_, fun ⟨j, a, b, c⟩ => ⟨j, a, by rw [if_pos b]; exact c⟩⟩
  by_cases e : S.testBit j = true
  · rw [if_pos e] at b; exact ⟨j, a, e, b⟩
  · rw [if_neg e, Nat.zero_testBit] at b; cases b
theorem EP_orf {pt o : Nat → Nat} {m k0 : Nat} (h : ∀ j, j < m → pt j < 64) (ho : ∀ j, j < k0 → o j < m) : orf (fun j => pt (o j)) k0 = EP pt m (orf (fun j => 2 ^ o j) k0) := by
  refine bits_ext (orf_lt (fun j hj => h _ (ho j hj))) (EP_lt h) (fun c _ => ?_)
  rw [orf_bit, EP_bit]
  refine ⟨fun ⟨j, a, b⟩ => ⟨o j, ho j a, orf_bit.mpr ⟨j, a, pw_bit.mpr rfl⟩, b⟩, fun ⟨q, a, b, c⟩ => ?_⟩
  obtain ⟨j, d, e⟩ := orf_bit.mp b
  exact ⟨j, d, by rw [pw_bit.mp e]; exact c⟩
section PS
variable {n N R B : Nat} {V : Vw} {M : Mem}
theorem e_before {m i k0 bits : Nat} {pt o : Nat → Nat} (h13 : ∀ k, k < m → M.1 13 k = nI (pt k)) (h14 : ∀ k, k < m → M.1 14 k = nI (o k)) (hm : m < 7) (ho : ∀ k, k < m → o k < m) (hpt : ∀ k, k < m → pt k < 64) (hbits : bits < 64) (hp : ∀ j, j < m → (pt j = bits ↔ j = i)) (hk : k0 < m) (h1 : o k0 = i) (h2 : ∀ j, j < k0 → ¬ o j = i) : p_Md_before (nI bits) M = some (nI (orf (fun j => pt (o j)) k0)) := by
  have e1 : itr zfu (fun s => p_Md_before_L4 (nI bits) M s.1 s.2) ((0 : Int32), (0 : Int32)) = some (nI (orf (fun j => pt (o j)) k0), nI k0) := by
    refine itr_st (fun j => (nI (orf (fun j => pt (o j)) j), nI j)) k0 (zfu_gt (by omega)) (fun j hj => ?_) ?_
    · have k1 : inb (nI j) 6 = true := inb_nI (by omega) (by omega)
      have oj := ho j (by omega)
      have k2 : inb (nI (o j)) 6 = true := inb_nI (by omega) (by omega)
      have k3 : ¬ nI (pt (o j)) = nI bits := fun e => h2 j hj ((hp _ oj).mp ((nI_eq (by have := hpt _ oj; omega) (by omega)).mp e))
      simp only [p_Md_before_L4, k1, chk_true, nI_clamp (show j < 2 ^ 31 by omega), h14 j (by omega), k2, nI_clamp (show o j < 2 ^ 31 by omega), h13 _ oj, k3, nI_or, nI_1, orf, ↓reduceIte]
    · have k1 : inb (nI k0) 6 = true := inb_nI (by omega) (by omega)
      have oj := ho k0 (by omega)
      have k2 : inb (nI (o k0)) 6 = true := inb_nI (by omega) (by omega)
      have k3 : nI (pt (o k0)) = nI bits := by rw [(hp _ oj).mpr h1]
      simp only [p_Md_before_L4, k1, chk_true, nI_clamp (show k0 < 2 ^ 31 by omega), h14 k0 (by omega), k2, nI_clamp (show o k0 < 2 ^ 31 by omega), h13 _ oj, k3, ↓reduceIte]
  unfold p_Md_before
  rw [bnd_e e1]
theorem e_layOrder {m w : Nat} (hm : m < 7) (hw : w < 2 ^ 31) (h17 : M.1 0 17 = nI m) : ∃ M', p_Md_layOrder (nI w) M = some M' ∧ XO M M' ∧ M'.1 13 = M.1 13 ∧ M'.1 0 17 = nI m ∧ ∀ k, k < m → M'.1 14 k = nI (ordf m w k) := by
  have hq : ∃ q : Int32 × Int32 × Int32 × Mem, itr zfu (fun s => p_Md_layOrder_L7 s.1 s.2.1 s.2.2.1 s.2.2.2) (nI w, (0 : Int32), (0 : Int32), M) = some q ∧ XO M q.2.2.2 ∧ q.2.2.2.1 13 = M.1 13 ∧ q.2.2.2.1 0 17 = nI m ∧ ∀ k, k < m → q.2.2.2.1 14 k = nI (ordf m w k) := by
    refine itr_run (σ := Int32 × Int32 × Int32 × Mem) (ρ := Int32 × Int32 × Int32 × Mem) (fun i s => s.1 = nI (lay m w i).1 ∧ s.2.1 = nI (lay m w i).2 ∧ s.2.2.1 = nI i ∧ XO M s.2.2.2 ∧ s.2.2.2.1 13 = M.1 13 ∧ s.2.2.2.1 0 17 = nI m ∧ ∀ k, k < i → s.2.2.2.1 14 k = nI (ordf m w k)) (fun q => XO M q.2.2.2 ∧ q.2.2.2.1 13 = M.1 13 ∧ q.2.2.2.1 0 17 = nI m ∧ ∀ k, k < m → q.2.2.2.1 14 k = nI (ordf m w k)) m (zfu_gt (by omega)) ⟨rfl, rfl, rfl, XO.rf, rfl, h17, fun k h => by omega⟩ (fun i s hi hp => ?_) (fun s hp => ?_)
    · obtain ⟨x, y, z, M1⟩ := s
      obtain ⟨rfl, rfl, rfl, hx, a13, a17, a14⟩ := hp
      dsimp only at hx a13 a17 a14
      obtain ⟨l1, l2, l3, l4⟩ := lay_ok (w := w) hm i (by omega)
      have l64 : (lay m w i).2 < 64 := Nat.lt_of_lt_of_le l1 (pw6 (by omega))
      have k1 : ¬ nI m ≤ nI i := nI_ge (by omega) (by omega)
      have k2 : nI m - nI i = nI (m - i) := nI_sub (by omega)
      have k3 : ¬ nI (m - i) = 0 := by rw [nI_z (by omega)]; omega
      have hp : (lay m w i).1 % (m - i) < m - i := Nat.mod_lt _ (by omega)
      have k4 : nI (lay m w i).1 - nI (lay m w i).1 / nI (m - i) * nI (m - i) = nI ((lay m w i).1 % (m - i)) := nI_rem (by omega) (by omega) (by omega)
      have k5 : nI (lay m w i).1 / nI (m - i) = nI ((lay m w i).1 / (m - i)) := nI_div (by omega) (by omega) (by omega)
      have k4 : nI (lay m w i).1 - nI ((lay m w i).1 / (m - i)) * nI (m - i) = nI ((lay m w i).1 % (m - i)) := by rw [← k5]; exact k4
      have k6 := at_t _ l64 ((lay m w i).1 % (m - i)) (by omega) (by omega)
      have k7 : inb (nI i) 6 = true := inb_nI (by omega) (by omega)
      have o1 := ord_lt (w := w) hm hi
      have o1 : nth (lay m w i).2 ((lay m w i).1 % (m - i)) < m := o1
      refine ⟨.inl (nI (lay m w (i + 1)).1, nI (lay m w (i + 1)).2, nI (i + 1), wI M1 14 (nI i) (nI (ordf m w i))), ?_, rfl, rfl, rfl, hx.w (Or.inr rfl), ?_, ?_, fun k hk => ?_⟩
      · have st : (0 : Int32) = nI 0 := rfl
        simp only [p_Md_layOrder_L7, a17, k1, k2, k3, k4, not_false_eq_true, decide_true, chk_true, bnd_e k6, k7, nm_s, or1 (show nth (lay m w i).2 ((lay m w i).1 % (m - i)) < 7 by omega), nI_1, k5, lay, ordf, ↓reduceIte]
      · show (wI M1 14 (nI i) (nI (ordf m w i))).1 13 = _
        rw [wI_ne (by omega)]; exact a13
      · show (wI M1 14 (nI i) (nI (ordf m w i))).1 0 17 = _
        rw [wI_ne (by omega)]; exact a17
      · show (wI M1 14 (nI i) (nI (ordf m w i))).1 14 k = _
        rw [wI_at (by omega)]
        split
        · next e => rw [e]
        · exact a14 k (by omega)
    · obtain ⟨x, y, z, M1⟩ := s
      obtain ⟨rfl, rfl, rfl, hx, a13, a17, a14⟩ := hp
      dsimp only at hx a13 a17 a14
      have k1 : nI m ≤ nI m := nI_le (by omega) (by omega)
      exact ⟨(_, _, nI m, M1), by simp only [p_Md_layOrder_L7, a17, k1, ↓reduceIte]; rfl, hx, a13, a17, a14⟩
  obtain ⟨q, h1, h2⟩ := hq
  refine ⟨q.2.2.2, ?_, h2⟩
  unfold p_Md_layOrder
  rw [bnd_e h1]
/-- the order of this number, and what stands before -/
theorem e_layBefore {m w i bits : Nat} {pt : Nat → Nat} (hm : m < 7) (hw : w < 2 ^ 31) (h17 : M.1 0 17 = nI m) (h13 : ∀ k, k < m → M.1 13 k = nI (pt k)) (hpt : ∀ k, k < m → pt k < 64) (hbits : bits < 64) (hi : i < m) (hp : ∀ j, j < m → (pt j = bits ↔ j = i)) :
    ∃ M', p_Md_layOrder (nI w) M = some M' ∧ XO M M' ∧ M'.1 13 = M.1 13 ∧ M'.1 0 17 = nI m ∧ p_Md_before (nI bits) M' = some (nI (EP pt m (bfr i m w 0))) := by
  obtain ⟨M1, e1, x1, a13, a17, a14⟩ := e_layOrder hm hw h17
  obtain ⟨k0, b1, b2, b3, b4⟩ := bef_idx (w := w) hm hi
  refine ⟨M1, e1, x1, a13, a17, ?_⟩
  rw [e_before (o := ordf m w) (fun k hk => by rw [a13]; exact h13 k hk) a14 hm (fun k hk => ord_lt hm hk) hpt hbits hp b1 b2 b3, b4, EP_orf hpt (fun j hj => ord_lt hm (by omega))]
theorem e_orders {m : Nat} (hm : m < 7) (h17 : M.1 0 17 = nI m) : p_Md_orders M = some (nI (fct m)) := by
  have : ∀ m, m < 7 → bnd (itr zfu (fun s : Int32 × Int32 => (if nI m < s.2 then some (.inr (s.1, s.2)) else some (.inl ((s.1 * s.2), (s.2 + (1 : Int32)))) : Option ((Int32 × Int32) ⊕ (Int32 × Int32)))) ((1 : Int32), (2 : Int32))) (fun q1 => some q1.1) = some (nI (fct m)) := by decide +kernel
  rw [← this m hm]
  unfold p_Md_orders
  simp only [p_Md_orders_L4, h17]
end PS
