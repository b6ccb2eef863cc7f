section PS
variable {n N R B : Nat} {V : Vw} {M : Mem}
theorem e_mdBoth (W : WF n N R B V) (T0 : RT V M) (h12 : ∀ j, j < 2 ^ n → M.2 12 j = Int64.ofInt (tot R B V j)) {g h : Nat} (hg : g < 6) (hh : h < 6) (tg : (thN n V).testBit g = true) (th : (thN n V).testBit h = true) (ne : g ≠ h)
    (x00 : ∃ M0 : Mem, XO M0 M) (h17 : M.1 0 17 = nI (pc (oth (oth (thN n V) g) h) + 1)) (h13 : ∀ k, k < pc (oth (oth (thN n V) g) h) + 1 → M.1 13 k = nI (ptB n V (gbN n V g ||| gbN n V h) (oth (oth (thN n V) g) h) k)) :
    ∃ q : Int64 × Int32 × Mem, itr zfu (fun s => p_Md_both_L100 (nI (gbN n V g)) (nI (gbN n V h)) s.1 s.2.1 s.2.2) ((0 : Int64), (0 : Int32), M) = some q ∧ q.1 = Int64.ofInt (tgC n R B V g h) ∧ XO M q.2.2 ∧ q.2.2.1 0 17 = nI (pc (oth (oth (thN n V) g) h) + 1) := by
  have hb := W.2.1
  have hT := thN_lt W
  have hp6 := pw6 hb.2.1
  have o1 := (oth_t _ hT g hg).2
  have o2 := (oth_t _ o1 h hh).2
  have p1 := pc_oth _ hT g hg tg
  have p2 := pc_oth _ o1 h hh ((oth_bit _ hT g hg h hh).mpr ⟨th, fun e => ne e.symm⟩)
  have hle := @pc_le (thN n V)
  have hbits : ∀ k, k < 6 → ((oth (oth (thN n V) g) h).testBit k = true ↔ (thN n V).testBit k = true ∧ k ≠ g ∧ k ≠ h) := fun k hk => by
    rw [oth_bit _ o1 h hh k hk, oth_bit _ hT g hg k hk]
    exact ⟨fun ⟨⟨a, b⟩, c⟩ => ⟨a, b, c⟩, fun ⟨a, b, c⟩ => ⟨⟨a, b⟩, c⟩⟩
  have tgdef : tgC n R B V g h = sm (fun P => if P &&& oth (oth (thN n V) g) h = P then (wys (oth (oth (thN n V) g) h) P : Int) * (brT R B V (colN n V P ||| colN n V (2 ^ h)) (colN n V (2 ^ g)) - brT R B V (colN n V P) (colN n V (2 ^ g))) else 0) 64 := rfl
  generalize oth (oth (thN n V) g) h = T at *
  have hm : pc T + 1 < 7 := by omega
  have hgn := gb_ne.mpr tg
  have hA : gbN n V g ||| gbN n V h < 64 := Nat.or_lt_two_pow (n := 6) (gbN_lt W) (gbN_lt W)
  have hpt : ∀ k, k < pc T + 1 → ptB n V (gbN n V g ||| gbN n V h) T k < 64 := fun k _ => by
    cases k with
    | zero => exact hA
    | succ k => exact gbN_lt W
  have hu : ∀ j, j < pc T + 1 → (ptB n V (gbN n V g ||| gbN n V h) T j = gbN n V g ||| gbN n V h ↔ j = 0) := fun j hj => by
    refine ⟨fun e => ?_, fun e => by rw [e]; rfl⟩
    cases j with
    | zero => rfl
    | succ j =>
      exfalso
      have e : gbN n V (el T j) = gbN n V g ||| gbN n V h := e
      obtain ⟨f1, f2, -⟩ := el_b T o2 j (by omega)
      obtain ⟨f3, f4, -⟩ := (hbits _ f2).mp f1
      have f5 := gb_ne.mpr f3
      have : gbN n V (el T j) &&& gbN n V g = 0 := (gb_and W f5).mpr f4
      rw [e] at this
      have h9 : gbN n V g &&& gbN n V g = 0 := by
        have q := (and_0 hA).mp this
        rw [and_0 (gbN_lt W)]
        intro c hc ⟨a, b⟩
        exact q c hc ⟨by rw [Nat.testBit_or, a]; rfl, b⟩
      rw [Nat.and_self] at h9
      exact hgn h9
  have hsum : sm (fun w => brT R B V (colN n V (EG1 T (bfr 0 (pc T + 1) w 0)) ||| colN n V (2 ^ h)) (colN n V (2 ^ g)) - brT R B V (colN n V (EG1 T (bfr 0 (pc T + 1) w 0))) (colN n V (2 ^ g))) (fct (pc T + 1)) = tgC n R B V g h := by
    rw [enc_sum (b := fun w => EG1 T (bfr 0 (pc T + 1) w 0)) (D := 64) (fun w _ => EG1_lt o2) (fct_lt _ hm).1 (fun P hP => ?_) (both_cnt T o2 (by omega)) (fun P => brT R B V (colN n V P ||| colN n V (2 ^ h)) (colN n V (2 ^ g)) - brT R B V (colN n V P) (colN n V (2 ^ g))), tgdef]
    · refine sm_congr (fun P _ => ?_)
      by_cases e : P &&& T = P
      · rw [if_pos e, if_pos e]
      · rw [if_neg e, if_neg e]; simp
    · split
      · next h => exact wys_lt _ o2 P hP h
      · omega
  have hf := fct_lt _ hm
  refine itr_run (σ := Int64 × Int32 × Mem) (ρ := Int64 × Int32 × Mem) (fun w s => s.1 = Int64.ofInt (sm (fun w => brT R B V (colN n V (EG1 T (bfr 0 (pc T + 1) w 0)) ||| colN n V (2 ^ h)) (colN n V (2 ^ g)) - brT R B V (colN n V (EG1 T (bfr 0 (pc T + 1) w 0))) (colN n V (2 ^ g))) w) ∧ s.2.1 = nI w ∧ XO M s.2.2 ∧ s.2.2.1 0 17 = nI (pc T + 1) ∧ s.2.2.1 13 = M.1 13) (fun q => q.1 = Int64.ofInt (tgC n R B V g h) ∧ XO M q.2.2 ∧ q.2.2.1 0 17 = nI (pc T + 1)) (fct (pc T + 1)) (zfu_gt (by omega)) ⟨rfl, rfl, XO.rf, h17, rfl⟩ (fun w s hw hp => ?_) (fun s hp => ?_)
  · obtain ⟨x, y, M1⟩ := s
    obtain ⟨rfl, rfl, hx, b17, b13⟩ := hp
    dsimp only at hx b17 b13
    have k1 : ¬ nI (fct (pc T + 1)) ≤ nI w := nI_ge (by omega) (by omega)
    obtain ⟨M2, e2, x2, c13, c17, e3⟩ := e_layBefore (M := M1) (w := w) (i := 0) (bits := gbN n V g ||| gbN n V h) (pt := ptB n V (gbN n V g ||| gbN n V h) T) hm (by omega) b17 (fun k hk => by rw [b13]; exact h13 k hk) hpt hA (by omega) hu
    rw [EP_EG1 W hA (bfr_0 hm (by omega))] at e3
    generalize hp0 : colN n V (EG1 T (bfr 0 (pc T + 1) w 0)) = p0 at e3
    have lp : p0 < 2 ^ n := by rw [← hp0]; exact colN_lt2
    have lg : gbN n V g < 2 ^ n := by rw [gb_col]; exact colN_lt2
    have lh : gbN n V h < 2 ^ n := by rw [gb_col]; exact colN_lt2
    have l1 : p0 ||| gbN n V g < 2 ^ n := Nat.or_lt_two_pow lp lg
    have l2 : p0 ||| gbN n V h < 2 ^ n := Nat.or_lt_two_pow lp lh
    have l3 : (p0 ||| gbN n V g) ||| gbN n V h < 2 ^ n := Nat.or_lt_two_pow l1 lh
    have s1 : M2.2 12 = M.2 12 := by rw [(hx.tr x2).1]
    have eo : (p0 ||| gbN n V h) ||| gbN n V g = (p0 ||| gbN n V g) ||| gbN n V h := by rw [Nat.or_assoc, Nat.or_assoc, Nat.or_comm (gbN n V h)]
    refine ⟨.inl (Int64.ofInt (sm (fun w => brT R B V (colN n V (EG1 T (bfr 0 (pc T + 1) w 0)) ||| colN n V (2 ^ h)) (colN n V (2 ^ g)) - brT R B V (colN n V (EG1 T (bfr 0 (pc T + 1) w 0))) (colN n V (2 ^ g))) (w + 1)), nI (w + 1), M2), ?_, rfl, rfl, hx.tr x2, c17, c13.trans b13⟩
    have fin : Int64.ofInt (tot R B V ((p0 ||| gbN n V g) ||| gbN n V h)) - Int64.ofInt (tot R B V (p0 ||| gbN n V g)) - Int64.ofInt (tot R B V (p0 ||| gbN n V h)) + Int64.ofInt (tot R B V p0) = Int64.ofInt (brT R B V (p0 ||| gbN n V h) (gbN n V g) - brT R B V p0 (gbN n V g)) := by
      unfold brT
      rw [eo, ← Int64.ofInt_sub, ← Int64.ofInt_sub, ← Int64.ofInt_add]
      congr 1
      omega
    have fin2 : sm (fun w => brT R B V (colN n V (EG1 T (bfr 0 (pc T + 1) w 0)) ||| colN n V (2 ^ h)) (colN n V (2 ^ g)) - brT R B V (colN n V (EG1 T (bfr 0 (pc T + 1) w 0))) (colN n V (2 ^ g))) (w + 1) = sm (fun w => brT R B V (colN n V (EG1 T (bfr 0 (pc T + 1) w 0)) ||| colN n V (2 ^ h)) (colN n V (2 ^ g)) - brT R B V (colN n V (EG1 T (bfr 0 (pc T + 1) w 0))) (colN n V (2 ^ g))) w + (brT R B V (p0 ||| gbN n V h) (gbN n V g) - brT R B V p0 (gbN n V g)) := by
      rw [gb_col, gb_col, ← hp0]
      rfl
    rw [fin2, Int64.ofInt_add, ← fin]
    simp only [p_Md_both_L100, bnd_e (e_orders hm b17), k1, bnd_e e2, bnd_e e3, nI_or, chk_t (inb_nI (show (p0 ||| gbN n V g) ||| gbN n V h < 64 by omega) (by omega)), chk_t (inb_nI (show p0 ||| gbN n V g < 64 by omega) (by omega)), chk_t (inb_nI (show p0 ||| gbN n V h < 64 by omega) (by omega)), chk_t (inb_nI (show p0 < 64 by omega) (by omega)), nI_clamp (show (p0 ||| gbN n V g) ||| gbN n V h < 2 ^ 31 by omega), nI_clamp (show p0 ||| gbN n V g < 2 ^ 31 by omega), nI_clamp (show p0 ||| gbN n V h < 2 ^ 31 by omega), nI_clamp (show p0 < 2 ^ 31 by omega), s1, h12 _ l1, h12 _ l2, h12 _ l3, h12 _ lp, nI_1, ↓reduceIte]
  · obtain ⟨x, y, M1⟩ := s
    obtain ⟨rfl, rfl, hx, b17, b13⟩ := hp
    dsimp only at hx b17 b13
    have k1 : nI (fct (pc T + 1)) ≤ nI (fct (pc T + 1)) := nI_le (by omega) (by omega)
    refine ⟨(Int64.ofInt (tgC n R B V g h), nI (fct (pc T + 1)), M1), ?_, rfl, hx, b17⟩
    simp only [p_Md_both_L100, bnd_e (e_orders hm b17), k1, hsum, ↓reduceIte]
theorem tot_bd (W : WF n N R B V) {s : Nat} : -80000 ≤ tot R B V s ∧ tot R B V s ≤ 80000 := by
  have hb := W.2.1
  have := sm_bound (f := fun r => ans R V (mixr V s (r + 1))) (C := 16000) (k := B) (fun r hr => ans_bound W (mixr_bd W (by omega)))
  unfold tot
  omega
theorem brT_bd (W : WF n N R B V) {a b : Nat} : -160000 ≤ brT R B V a b ∧ brT R B V a b ≤ 160000 := by
  have h1 := tot_bd W (s := a ||| b)
  have h2 := tot_bd W (s := a)
  unfold brT
  omega
theorem mulb {a x : Int} {A X : Int} (h0 : 0 ≤ a) (h1 : a ≤ A) (h2 : -X ≤ x ∧ x ≤ X) : -(A * X) ≤ a * x ∧ a * x ≤ A * X := by
  have hX : 0 ≤ X := by omega
  have e1 : a * x ≤ a * X := Int.mul_le_mul_of_nonneg_left h2.2 h0
  have e2 : a * (-X) ≤ a * x := Int.mul_le_mul_of_nonneg_left h2.1 h0
  have e3 : a * X ≤ A * X := Int.mul_le_mul_of_nonneg_right h1 hX
  rw [Int.mul_neg] at e2
  omega
theorem shC_bd (W : WF n N R B V) {g : Nat} {mn : Bool} (hg : g < 6) : -20971520000 ≤ shC n R B V g mn ∧ shC n R B V g mn ≤ 20971520000 := by
  have ho := (oth_t _ (thN_lt W) g hg).2
  have := sm_bound (f := fun P => if P &&& oth (thN n V) g = P then (if mn then 1 else (wys (oth (thN n V) g) P : Int)) * brT R B V (colN n V P) (colN n V (2 ^ g)) else 0) (C := 1024 * 160000) (k := 64) (fun P hP => by
    split
    · next h =>
      have hw := wys_lt _ ho P hP h
      refine mulb ?_ ?_ (brT_bd W)
      · split <;> omega
      · split <;> omega
    · omega)
  unfold shC
  omega
theorem tgC_bd (W : WF n N R B V) {g h : Nat} (hg : g < 6) (hh : h < 6) : -41943040000 ≤ tgC n R B V g h ∧ tgC n R B V g h ≤ 41943040000 := by
  have ho := (oth_t _ (oth_t _ (thN_lt W) g hg).2 h hh).2
  have := sm_bound (f := fun P => if P &&& oth (oth (thN n V) g) h = P then (wys (oth (oth (thN n V) g) h) P : Int) * (brT R B V (colN n V P ||| colN n V (2 ^ h)) (colN n V (2 ^ g)) - brT R B V (colN n V P) (colN n V (2 ^ g))) else 0) (C := 1024 * 320000) (k := 64) (fun P hP => by
    split
    · next hs =>
      have hw := wys_lt _ ho P hP hs
      have c1 := brT_bd W (a := colN n V P) (b := colN n V (2 ^ g))
      have c2 := brT_bd W (a := colN n V P ||| colN n V (2 ^ h)) (b := colN n V (2 ^ g))
      exact mulb (by omega) (by omega) (by omega)
    · omega)
  unfold tgC
  omega
end PS
