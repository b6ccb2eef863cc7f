section PS
variable {n N R B : Nat} {V : Vw} {M : Mem}
theorem eg_and (W : WF n N R B V) {T S i : Nat} (hT : T < 64) (hTT : thN n V = T) (hi : i < pc T) : colN n V (EG T S) &&& gbN n V (el T i) = 0 ↔ ¬ S.testBit i = true := by
  have hb := W.2.1
  rw [and_0 (colN_lt W), ← EP_EG W]
  refine ⟨fun h hs => ?_, fun h c _ ⟨a, b⟩ => ?_⟩
  · have hgn : gbN n V (el T i) ≠ 0 := by rw [gb_ne, hTT]; exact (el_b T hT i hi).1
    obtain ⟨c, hc⟩ := Nat.exists_testBit_of_ne_zero hgn
    exact h c (by have := (gbN_bit.mp hc).1; omega) ⟨EP_bit.mpr ⟨i, hi, hs, hc⟩, hc⟩
  · obtain ⟨j, j1, j2, j3⟩ := EP_bit.mp a
    have e := el_inj hT j1 hi ((gbN_bit.mp j3).2.symm.trans (gbN_bit.mp b).2)
    exact h (e ▸ j2)
theorem e_mdSet (W : WF n N R B V) (T0 : RT V M) (h12 : ∀ j, j < 2 ^ n → M.2 12 j = Int64.ofInt (tot R B V j)) {i : Nat} (hi : i < pc (thN n V)) :
    ∃ M', p_Md_setSum (nI (gbN n V (el (thN n V) i))) M = some (Int64.ofInt (shC n R B V (el (thN n V) i) true), M') ∧ XO M M' ∧ M'.1 0 17 = nI (pc (thN n V)) := by
  have hT := thN_lt W
  have hm : pc (thN n V) < 7 := by have := @pc_le (thN n V); omega
  have hp6 := pw6 W.2.1.2.1
  obtain ⟨M0, e0, x0, a17, a13⟩ := e_list0 W T0
  generalize hTT : thN n V = T at hi hT hm a17 a13
  have hg := el_b T hT i hi
  have hm6 : 2 ^ pc T ≤ 64 := pw6 (by omega)
  have hsum : sm (fun w => if w.testBit i = true then 0 else brT R B V (colN n V (EG T w)) (colN n V (2 ^ el T i))) (2 ^ pc T) = shC n R B V (el T i) true := by
    have h1 : sm (fun w => if w.testBit i = true then 0 else brT R B V (colN n V (EG T w)) (colN n V (2 ^ el T i))) (2 ^ pc T) = sm (fun w => (fun P => if P = 64 then 0 else brT R B V (colN n V P) (colN n V (2 ^ el T i))) (if w.testBit i = true then 64 else EG T w)) (2 ^ pc T) := sm_congr (fun w _ => by
      by_cases e : w.testBit i = true
      · rw [if_pos e, if_pos e]; rfl
      · rw [if_neg e, if_neg e]
        have := EG_lt (S := w) hT
        dsimp only
        rw [if_neg (by omega)])
    rw [h1, enc_sum (D := 65) (fun w _ => ?_) (by omega) (fun P hP => ?_) (set_cnt T hT i hi) (fun P => if P = 64 then 0 else brT R B V (colN n V P) (colN n V (2 ^ el T i)))]
    · unfold shC
      rw [hTT]
      show sm _ 64 + (_ : Int) = _
      dsimp only
      rw [if_pos (show (64 : Nat) = 64 from rfl), if_pos (show (64 : Nat) = 64 from rfl), Int.mul_zero, Int.add_zero]
      refine sm_congr (fun P hP => ?_)
      have hne : ¬ P = 64 := by omega
      rw [if_neg hne, if_neg hne]
      by_cases e : P &&& oth T (el T i) = P
      · rw [if_pos e, if_pos e, if_pos rfl]; simp
      · rw [if_neg e, if_neg e]; simp
    · split
      · omega
      · have := EG_lt (S := w) hT; omega
    · split
      · have : 2 ^ (pc T - 1) ≤ 2 ^ 6 := Nat.pow_le_pow_right (by omega) (by omega)
        omega
      · split <;> omega
  have h28 : ∀ w, w < 64 → itr zfu (fun s => p_Md_setSum_L28 M0 (nI w) s.1 s.2) ((0 : Int32), (0 : Int32)) = some (nI (colN n V (EG T w)), nI (pc T)) := fun w hw => by
    rw [← EP_EG W]
    refine itr_st (fun k => (nI (orf (fun j => if w.testBit j = true then gbN n V (el T j) else 0) k), nI k)) (pc T) (zfu_gt (by omega)) (fun k hk => ?_) ?_
    · have k1 : ¬ nI (pc T) ≤ nI k := nI_ge (by omega) (by omega)
      have k2 : inb (nI k) 6 = true := inb_nI (by omega) (by omega)
      by_cases cb : w.testBit k = true
      · have cb' := (bit_t w hw k (by omega)).mpr cb
        simp only [p_Md_setSum_L28, a17, k1, k2, cb', cb, chk_true, nI_clamp (show k < 2 ^ 31 by omega), a13 k hk, nI_or, nI_1, orf, ↓reduceIte]
      · have cb' := mt (bit_t w hw k (by omega)).mp cb
        simp only [p_Md_setSum_L28, a17, k1, k2, cb', cb, Int32.or_zero, Nat.or_zero, nI_1, orf, Bool.false_eq_true, ↓reduceIte]
    · have k1 : nI (pc T) ≤ nI (pc T) := nI_le (by omega) (by omega)
      simp only [p_Md_setSum_L28, a17, k1, ↓reduceIte]
      rfl
  have hq : itr zfu (fun s => p_Md_setSum_L11 (nI (gbN n V (el T i))) M0 s.1 s.2) ((0 : Int64), (0 : Int32)) = some (Int64.ofInt (shC n R B V (el T i) true), nI (2 ^ pc T)) := by
    rw [← hsum]
    refine itr_st (fun w => (Int64.ofInt (sm (fun w => if w.testBit i = true then 0 else brT R B V (colN n V (EG T w)) (colN n V (2 ^ el T i))) w), nI w)) (2 ^ pc T) (zfu_gt (by omega)) (fun w hw => ?_) ?_
    · have k1 : ¬ nI (2 ^ pc T) ≤ nI w := nI_ge (by omega) (by omega)
      have e28 := h28 w (by omega)
      have l1 : colN n V (EG T w) ||| gbN n V (el T i) < 2 ^ n := Nat.or_lt_two_pow colN_lt2 (by rw [gb_col]; exact colN_lt2)
      have l2 : colN n V (EG T w) < 2 ^ n := colN_lt2
      have s1 : M0.2 12 = M.2 12 := by rw [x0.1]
      have z : nI (colN n V (EG T w) &&& gbN n V (el T i)) = 0 ↔ ¬ w.testBit i = true := by
        rw [nI_z (Nat.lt_of_le_of_lt Nat.and_le_left (by omega))]
        exact eg_and W hT hTT hi
      by_cases cb : w.testBit i = true
      · have z' : ¬ nI (colN n V (EG T w) &&& gbN n V (el T i)) = 0 := fun q => z.mp q cb
        simp only [p_Md_setSum_L11, a17, shl_t (pc T) hm, k1, bnd_e e28, nI_and, z', cb, Int64.add_zero, Int.add_zero, nI_1, sm, ↓reduceIte]
      · have z' := z.mpr cb
        simp only [p_Md_setSum_L11, a17, shl_t (pc T) hm, k1, bnd_e e28, nI_and, z', cb, nI_or, chk_t (inb_nI (show colN n V (EG T w) ||| gbN n V (el T i) < 64 by omega) (by omega)), chk_t (inb_nI (show colN n V (EG T w) < 64 by omega) (by omega)), nI_clamp (show colN n V (EG T w) ||| gbN n V (el T i) < 2 ^ 31 by omega), nI_clamp (show colN n V (EG T w) < 2 ^ 31 by omega), s1, h12 _ l1, h12 _ l2, nI_1, sm, brT, ← gb_col, Int64.ofInt_add, Int64.ofInt_sub, Bool.false_eq_true, ↓reduceIte]
    · have k1 : nI (2 ^ pc T) ≤ nI (2 ^ pc T) := nI_le (by omega) (by omega)
      simp only [p_Md_setSum_L11, a17, shl_t (pc T) hm, k1, ↓reduceIte]
  refine ⟨M0, ?_, x0, a17⟩
  unfold p_Md_setSum
  rw [bnd_e e0, bnd_e hq]
/-! two together -/
def ptB (n : Nat) (V : Vw) (A T k : Nat) : Nat := match k with
  | 0 => A
  | k + 1 => gbN n V (el T k)
theorem EP_EG1 (W : WF n N R B V) {A T S : Nat} (hA : A < 64) (h0 : ¬ S.testBit 0 = true) : EP (ptB n V A T) (pc T + 1) S = colN n V (EG1 T S) := by
  refine bits_ext (EP_lt (fun j _ => by cases j with
    | zero => exact hA
    | succ j => exact gbN_lt W)) (colN_lt W) (fun c _ => ?_)
  rw [EP_bit, colN_bit, EG1, orf_bit]
  refine ⟨fun ⟨j, a, b, c⟩ => ?_, fun ⟨a, j, b, c⟩ => ?_⟩
  · cases j with
    | zero => exact absurd b h0
    | succ j =>
      obtain ⟨d, e⟩ := gbN_bit.mp c
      exact ⟨d, j, by omega, by rw [if_pos b]; exact pw_bit.mpr e.symm⟩
  · by_cases e : S.testBit (j + 1) = true
    · rw [if_pos e] at c
      exact ⟨j + 1, by omega, e, gbN_bit.mpr ⟨a, (pw_bit.mp c).symm⟩⟩
    · rw [if_neg e, Nat.zero_testBit] at c; cases c
theorem EG1_lt {T S : Nat} (hT : T < 64) : EG1 T S < 64 := orf_lt (fun j hj => by
  split
  · exact pw_lt (el_b T hT j hj).2.1
  · omega)
theorem bfr_0 {m w : Nat} (hm : m < 7) (h0 : 0 < m) : ¬ (bfr 0 m w 0).testBit 0 = true := fun h => by
  obtain ⟨k0, b1, b2, b3, b4⟩ := bef_idx (w := w) hm h0
  rw [b4, orf_bit] at h
  obtain ⟨j, h1, h2⟩ := h
  exact b3 j h1 (pw_bit.mp h2)
theorem pc_oth : ∀ T, T < 64 → ∀ g, g < 6 → T.testBit g = true → pc (oth T g) + 1 = pc T := by decide +kernel
theorem e_list2 (W : WF n N R B V) (T0 : RT V M) {g h : Nat} (hg : g < 6) (hh : h < 6) (tg : (thN n V).testBit g = true) (th : (thN n V).testBit h = true) (ne : g ≠ h) : ∃ M', p_Md_listParts (nI (gbN n V g)) (nI (gbN n V h)) M = some M' ∧ XO M M' ∧ M'.1 0 17 = nI (pc (oth (oth (thN n V) g) h) + 1) ∧ ∀ k, k < pc (oth (oth (thN n V) g) h) + 1 → M'.1 13 k = nI (ptB n V (gbN n V g ||| gbN n V h) (oth (oth (thN n V) g) h) k) := by
  have hb := W.2.1
  have hT := thN_lt W
  have o1 := (oth_t _ hT g hg).2
  have o2 := (oth_t _ o1 h hh).2
  have p1 := pc_oth _ hT g hg tg
  have p2 := pc_oth _ o1 h hh ((oth_bit _ hT g hg h hh).mpr ⟨th, fun e => ne e.symm⟩)
  have hle := @pc_le (thN n V)
  have hsub : oth (oth (thN n V) g) h < 2 ^ n := Nat.lt_of_le_of_lt (Nat.le_trans Nat.and_le_left Nat.and_le_left) (thN_lt2 W)
  generalize hTT : oth (oth (thN n V) g) h = T' at *
  have x0 : XO M (wF M 0 17 0) := XO.rf.f
  have x1 : XO M (wF (wI (wF M 0 17 0) 13 0 (nI (gbN n V g ||| gbN n V h))) 0 17 1) := (x0.w (Or.inl rfl)).f
  have h17 : (wF (wI (wF M 0 17 0) 13 0 (nI (gbN n V g ||| gbN n V h))) 0 17 1).1 0 17 = nI 1 := wF_at
  have hgn := gb_ne.mpr tg
  obtain ⟨q, e1, x2, a17, ad, a13⟩ := e_lp W (T0.o x1) (d := 1) (A := gbN n V g ||| gbN n V h) (a1 := nI (gbN n V g)) (a2 := nI (gbN n V h)) (T := T') hsub (by omega) (fun k hk => by
    have q1 : T'.testBit k = true ↔ (thN n V).testBit k = true ∧ k ≠ g ∧ k ≠ h := by
      rw [← hTT, oth_bit _ o1 h hh k (by omega), oth_bit _ hT g hg k (by omega)]
      exact ⟨fun ⟨⟨a, b⟩, c⟩ => ⟨a, b, c⟩, fun ⟨a, b, c⟩ => ⟨⟨a, b⟩, c⟩⟩
    rw [q1, ← gb_ne]
    refine ⟨fun ⟨a, b, c⟩ => ⟨a, ?_⟩, fun ⟨a, b⟩ => ⟨a, ?_⟩⟩
    · rw [Nat.and_or_distrib_left, (gb_and W a).mpr b, (gb_and W a).mpr c]; rfl
    · rw [Nat.and_or_distrib_left, Nat.or_eq_zero_iff] at b
      exact ⟨(gb_and W a).mp b.1, (gb_and W a).mp b.2⟩) (nI_or _ _) h17
  refine ⟨q.2, ?_, x1.tr x2, by rw [a17, Nat.add_comm], fun k hk => ?_⟩
  · have z : ¬ nI (gbN n V g) = 0 := by rw [nI_z (by have := gbN_lt W (g := g); omega)]; exact hgn
    unfold p_Md_listParts
    rw [nm_s, if_neg z, chk_t (by decide), nm_s, nm_s, nI_or, bnd_e e1]
  · cases k with
    | zero =>
      rw [ad 0 (by omega), wF_ne (by omega), show (0 : Int32) = nI 0 from rfl, wI_at (by omega), if_pos rfl]; rfl
    | succ k => rw [Nat.add_comm k 1, a13 k (by omega), Nat.add_comm 1 k]; rfl
end PS
