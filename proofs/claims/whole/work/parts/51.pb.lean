theorem orf_lt2 {f : Nat → Nat} {e : Nat} : ∀ {k : Nat}, (∀ i, i < k → f i < 2 ^ e) → orf f k < 2 ^ e := by
  intro k
  induction k with
  | zero => intro _; exact Nat.pow_pos (by omega)
  | succ k ih => intro h; exact Nat.or_lt_two_pow (ih (fun i hi => h i (by omega))) (h k (by omega))
theorem oth_bit : ∀ T, T < 64 → ∀ g, g < 6 → ∀ j, j < 6 → ((oth T g).testBit j = true ↔ T.testBit j = true ∧ j ≠ g) := by decide +kernel
theorem and_0 {x y : Nat} (hx : x < 64) : x &&& y = 0 ↔ ∀ c, c < 6 → ¬ (x.testBit c = true ∧ y.testBit c = true) := by
  refine ⟨fun h c _ ⟨a, b⟩ => ?_, fun h => ?_⟩
  · have : (x &&& y).testBit c = true := by rw [Nat.testBit_and, a, b]; rfl
    rw [h, Nat.zero_testBit] at this
    cases this
  · refine bits_ext (Nat.lt_of_le_of_lt Nat.and_le_left hx) (by omega) (fun j hj => ?_)
    rw [Nat.testBit_and, Bool.and_eq_true, Nat.zero_testBit]
    exact ⟨fun q => absurd q (h j hj), fun q => by cases q⟩
theorem wys_lt : ∀ o, o < 64 → ∀ P, P < 64 → P &&& o = P → wys o P < 1024 := by decide +kernel
theorem fct_lt : ∀ m, m < 7 → fct m < 1024 ∧ 0 < fct m := by decide +kernel
section PS
variable {n N R B : Nat} {V : Vw} {M : Mem}
theorem thN_lt2 (W : WF n N R B V) : thN n V < 2 ^ n := orf_lt2 (fun c hc => Nat.pow_lt_pow_right (by omega) ((gr_lt W (by have := W.2.1; omega)).2.2 hc))
theorem colN_lt2 {P : Nat} : colN n V P < 2 ^ n := orf_lt2 (fun c hc => by
  split
  · exact Nat.pow_lt_pow_right (by omega) hc
  · exact Nat.pow_pos (by omega))
theorem gb_ne {g : Nat} : gbN n V g ≠ 0 ↔ (thN n V).testBit g = true := by
  rw [thN_bit]
  refine ⟨fun h => ?_, fun ⟨c, a, b⟩ h => ?_⟩
  · obtain ⟨c, hc⟩ := Nat.exists_testBit_of_ne_zero h
    exact ⟨c, gbN_bit.mp hc⟩
  · have := gbN_bit.mpr (show c < n ∧ gr V c = g from ⟨a, b⟩)
    rw [h, Nat.zero_testBit] at this
    cases this
theorem gb_inj {g h : Nat} (hg : gbN n V g ≠ 0) (e : gbN n V g = gbN n V h) : g = h := by
  obtain ⟨c, hc⟩ := Nat.exists_testBit_of_ne_zero hg
  rw [← (gbN_bit.mp hc).2]
  rw [e] at hc
  exact (gbN_bit.mp hc).2
theorem gb_and (W : WF n N R B V) {g h : Nat} (hg : gbN n V g ≠ 0) : gbN n V g &&& gbN n V h = 0 ↔ g ≠ h := by
  rw [and_0 (gbN_lt W)]
  refine ⟨fun q e => ?_, fun q c _ ⟨a, b⟩ => q ((gbN_bit.mp a).2.symm.trans (gbN_bit.mp b).2)⟩
  obtain ⟨c, hc⟩ := Nat.exists_testBit_of_ne_zero hg
  have := W.2.1
  exact q c (by have := (gbN_bit.mp hc).1; omega) ⟨hc, e ▸ hc⟩
theorem e_lp (W : WF n N R B V) (T0 : RT V M) {d A T : Nat} {a1 a2 : Int32} (hT : T < 2 ^ n) (hd : d + pc T ≤ 6) (hc : ∀ g, g < n → (T.testBit g = true ↔ gbN n V g ≠ 0 ∧ gbN n V g &&& A = 0)) (hA : a1 ||| a2 = nI A) (h17 : M.1 0 17 = nI d) :
    ∃ q : Int32 × Mem, itr zfu (fun s => p_Md_listParts_L25 a1 a2 s.1 s.2) ((0 : Int32), M) = some q ∧ XO M q.2 ∧ q.2.1 0 17 = nI (d + pc T) ∧ (∀ k, k < d → q.2.1 13 k = M.1 13 k) ∧ ∀ k, k < pc T → q.2.1 13 (d + k) = nI (gbN n V (el T k)) := by
  have hb := W.2.1
  have hT6 : T < 64 := Nat.lt_of_lt_of_le hT (pw6 hb.2.1)
  refine itr_run (σ := Int32 × Mem) (ρ := Int32 × Mem) (fun i s => s.1 = nI i ∧ XO M s.2 ∧ s.2.1 0 17 = nI (d + pc (T % 2 ^ i)) ∧ (∀ k, k < d → s.2.1 13 k = M.1 13 k) ∧ ∀ k, k < pc (T % 2 ^ i) → s.2.1 13 (d + k) = nI (gbN n V (el T k))) (fun q => XO M q.2 ∧ q.2.1 0 17 = nI (d + pc T) ∧ (∀ k, k < d → q.2.1 13 k = M.1 13 k) ∧ ∀ k, k < pc T → q.2.1 13 (d + k) = nI (gbN n V (el T k))) n (zfu_gt (by omega)) ⟨rfl, XO.rf, ?_, fun _ _ => rfl, fun k hk => ?_⟩ (fun i s hi hp => ?_) (fun s hp => ?_)
  · dsimp only; rw [h17, Nat.pow_zero, Nat.mod_one]; rfl
  · rw [Nat.pow_zero, Nat.mod_one] at hk; exact absurd hk (by show ¬ k < pc 0; rw [show pc 0 = 0 by decide]; omega)
  · obtain ⟨x, M1⟩ := s
    obtain ⟨rfl, hx, a17, ad, a13⟩ := hp
    dsimp only at hx a17 ad a13
    have T1 := T0.o hx
    have k1 : ¬ M1.1 0 1 ≤ nI i := by rw [T1.2.1, W.1.1]; exact nI_ge (by omega) (by omega)
    have eg := e_groupBits W T1 (show i < 6 by omega)
    have gl := gbN_lt W (g := i)
    have z1 : nI (gbN n V i) = 0 ↔ gbN n V i = 0 := nI_z (by omega)
    have z2 : nI (gbN n V i &&& A) = 0 ↔ gbN n V i &&& A = 0 := nI_z (Nat.lt_of_le_of_lt Nat.and_le_left (by omega))
    by_cases cb : T.testBit i = true
    · obtain ⟨t1, t2, t3⟩ := el_t T hT6 i (by omega) cb
      obtain ⟨g1, g2⟩ := (hc i hi).mp cb
      have k2 : inb (nI (d + pc (T % 2 ^ i))) 6 = true := inb_nI (by omega) (by omega)
      have r17 : (wI M1 13 (nI (d + pc (T % 2 ^ i))) (nI (gbN n V i))).1 0 17 = nI (d + pc (T % 2 ^ i)) := by rw [wI_ne (by omega)]; exact a17
      refine ⟨.inl (nI (i + 1), wF (wI M1 13 (nI (d + pc (T % 2 ^ i))) (nI (gbN n V i))) 0 17 (nI (d + pc (T % 2 ^ i) + 1))), ?_, rfl, (hx.w (Or.inl rfl)).f, ?_, fun k hk => ?_, fun k hk => ?_⟩
      · simp only [p_Md_listParts_L25, k1, bnd_e eg, z1, g1, hA, nI_and, g2, nI_0, a17, k2, chk_true, nm_s, r17, nI_1, ↓reduceIte]
      · dsimp only; rw [wF_at, t3]; rfl
      · dsimp only; rw [wF_ne (by omega), wI_at (by omega), if_neg (by omega)]; exact ad k hk
      · dsimp only; rw [wF_ne (by omega), wI_at (by omega)]
        rw [t3] at hk
        by_cases e : d + k = d + pc (T % 2 ^ i)
        · rw [if_pos e, show k = pc (T % 2 ^ i) by omega, t1]
        · rw [if_neg e]; exact a13 k (by omega)
    · have t3 := el_f T hT6 i (by omega) cb
      have hn := mt (hc i hi).mpr cb
      refine ⟨.inl (nI (i + 1), M1), ?_, rfl, hx, by dsimp only; rw [t3]; exact a17, ad, fun k hk => a13 k (by rw [← t3]; exact hk)⟩
      by_cases g1 : gbN n V i = 0
      · simp only [p_Md_listParts_L25, k1, bnd_e eg, g1, nI_0, nI_1, ↓reduceIte]
      · have g2 : ¬ gbN n V i &&& A = 0 := fun q => hn ⟨g1, q⟩
        simp only [p_Md_listParts_L25, k1, bnd_e eg, z1, g1, hA, nI_and, z2, g2, nI_1, ↓reduceIte]
  · obtain ⟨x, M1⟩ := s
    obtain ⟨rfl, hx, a17, ad, a13⟩ := hp
    dsimp only at hx a17 ad a13
    have T1 := T0.o hx
    have k1 : M1.1 0 1 ≤ nI n := by rw [T1.2.1, W.1.1]; exact nI_le (by omega) (by omega)
    rw [Nat.mod_eq_of_lt hT] at a17 a13
    exact ⟨(nI n, M1), by simp only [p_Md_listParts_L25, k1, ↓reduceIte], hx, a17, ad, a13⟩
theorem e_list0 (W : WF n N R B V) (T0 : RT V M) : ∃ M', p_Md_listParts 0 0 M = some M' ∧ XO M M' ∧ M'.1 0 17 = nI (pc (thN n V)) ∧ ∀ k, k < pc (thN n V) → M'.1 13 k = nI (gbN n V (el (thN n V) k)) := by
  have h17 : (wF M 0 17 0).1 0 17 = nI 0 := wF_at
  have x0 : XO M (wF M 0 17 0) := XO.rf.f
  have hle := @pc_le (thN n V)
  obtain ⟨q, e1, x1, a17, -, a13⟩ := e_lp W (T0.o x0) (d := 0) (A := 0) (a1 := 0) (a2 := 0) (thN_lt2 W) (by omega) (fun g hg => by rw [Nat.and_zero]; exact ⟨fun h => ⟨gb_ne.mpr h, rfl⟩, fun h => gb_ne.mp h.1⟩) (by decide) h17
  refine ⟨q.2, ?_, x0.tr x1, by rw [a17, Nat.zero_add], fun k hk => by have := a13 k hk; rwa [Nat.zero_add] at this⟩
  unfold p_Md_listParts
  rw [nm_s, if_pos rfl, bnd_e e1]
theorem el_inj {T j i : Nat} (hT : T < 64) (hj : j < pc T) (hi : i < pc T) (h : el T j = el T i) : j = i := by
  rw [← (el_b T hT j hj).2.2, ← (el_b T hT i hi).2.2, h]
theorem EP_EG (W : WF n N R B V) {T S : Nat} : EP (fun k => gbN n V (el T k)) (pc T) S = colN n V (EG T S) := by
  refine bits_ext (EP_lt (fun j _ => gbN_lt W)) (colN_lt W) (fun c _ => ?_)
  rw [EP_bit, colN_bit, EG, orf_bit]
  refine ⟨fun ⟨j, a, b, c⟩ => ?_, fun ⟨a, j, b, c⟩ => ?_⟩
  · obtain ⟨d, e⟩ := gbN_bit.mp c
    exact ⟨d, j, a, by rw [if_pos b]; exact pw_bit.mpr e.symm⟩
  · by_cases e : S.testBit j = true
    · rw [if_pos e] at c
      exact ⟨j, b, e, gbN_bit.mpr ⟨a, (pw_bit.mp c).symm⟩⟩
    · rw [if_neg e, Nat.zero_testBit] at c; cases c
theorem EG_lt {T S : Nat} (hT : T < 64) : EG T S < 64 := orf_lt (fun j hj => by
  split
  · exact pw_lt (el_b T hT j hj).2.1
  · omega)
theorem e_mdShare (W : WF n N R B V) (T0 : RT V M) (h12 : ∀ j, j < 2 ^ n → M.2 12 j = Int64.ofInt (tot R B V j)) {i : Nat} (hi : i < pc (thN n V)) :
    ∃ M', p_Md_shareSum (nI (gbN n V (el (thN n V) i))) M = some (Int64.ofInt (shC n R B V (el (thN n V) i) false), M') ∧ XO M M' ∧ M'.1 0 17 = nI (pc (thN n V)) := by
  have hT := thN_lt W
  have hm : pc (thN n V) < 7 := by have := @pc_le (thN n V); omega
  have hp6 := pw6 W.2.1.2.1
  obtain ⟨M0, e0, x0, a17, a13⟩ := e_list0 W T0
  generalize hTT : thN n V = T at hi hT hm a17 a13
  have hg := el_b T hT i hi
  have hgn : gbN n V (el T i) ≠ 0 := by rw [gb_ne, hTT]; exact hg.1
  have hsum : sm (fun w => brT R B V (colN n V (EG T (bfr i (pc T) w 0))) (colN n V (2 ^ el T i))) (fct (pc T)) = shC n R B V (el T i) false := by
    rw [enc_sum (b := fun w => EG T (bfr i (pc T) w 0)) (D := 64) (fun w _ => EG_lt hT) (fct_lt _ hm).1 (fun P hP => ?_) (share_cnt T hT i hi) (fun P => brT R B V (colN n V P) (colN n V (2 ^ el T i)))]
    · unfold shC
      rw [hTT]
      refine sm_congr (fun P _ => ?_)
      by_cases e : P &&& oth T (el T i) = P
      · rw [if_pos e, if_pos e, if_neg (by decide)]
      · rw [if_neg e, if_neg e]; simp
    · split
      · next h => exact wys_lt _ (oth_t T hT _ hg.2.1).2 P hP h
      · omega
  have hq : ∃ q : Int64 × Int32 × Mem, itr zfu (fun s => p_Md_shareSum_L11 (nI (gbN n V (el T i))) s.1 s.2.1 s.2.2) ((0 : Int64), (0 : Int32), M0) = some q ∧ q.1 = Int64.ofInt (shC n R B V (el T i) false) ∧ XO M q.2.2 ∧ q.2.2.1 0 17 = nI (pc T) := by
    have hf := fct_lt _ hm
    refine itr_run (σ := Int64 × Int32 × Mem) (ρ := Int64 × Int32 × Mem) (fun w s => s.1 = Int64.ofInt (sm (fun w => brT R B V (colN n V (EG T (bfr i (pc T) w 0))) (colN n V (2 ^ el T i))) w) ∧ s.2.1 = nI w ∧ XO M s.2.2 ∧ s.2.2.1 0 17 = nI (pc T) ∧ s.2.2.1 13 = M0.1 13) (fun q => q.1 = Int64.ofInt (shC n R B V (el T i) false) ∧ XO M q.2.2 ∧ q.2.2.1 0 17 = nI (pc T)) (fct (pc T)) (zfu_gt (by omega)) ⟨rfl, rfl, x0, a17, rfl⟩ (fun w s hw hp => ?_) (fun s hp => ?_)
    · obtain ⟨x, y, M1⟩ := s
      obtain ⟨rfl, rfl, hx, b17, b13⟩ := hp
      dsimp only at hx b17 b13
      have k1 : ¬ nI (fct (pc T)) ≤ nI w := nI_ge (by omega) (by omega)
      obtain ⟨M2, e2, x2, c13, c17, e3⟩ := e_layBefore (M := M1) (w := w) (i := i) (bits := gbN n V (el T i)) (pt := fun k => gbN n V (el T k)) hm (by omega) b17 (fun k hk => by rw [b13]; exact a13 k hk) (fun k _ => gbN_lt W) (gbN_lt W) hi (fun j hj => ⟨fun h => el_inj hT hj hi (gb_inj hgn h.symm).symm, fun h => by rw [h]⟩)
      rw [EP_EG W] at e3
      have l1 : colN n V (EG T (bfr i (pc T) w 0)) ||| gbN n V (el T i) < 2 ^ n := Nat.or_lt_two_pow colN_lt2 (by rw [gb_col]; exact colN_lt2)
      have l2 : colN n V (EG T (bfr i (pc T) w 0)) < 2 ^ n := colN_lt2
      have s1 : M2.2 12 = M.2 12 := by rw [(hx.tr x2).1]
      refine ⟨.inl (Int64.ofInt (sm (fun w => brT R B V (colN n V (EG T (bfr i (pc T) w 0))) (colN n V (2 ^ el T i))) (w + 1)), nI (w + 1), M2), ?_, rfl, rfl, hx.tr x2, c17, c13.trans b13⟩
      simp only [p_Md_shareSum_L11, bnd_e (e_orders hm b17), k1, bnd_e e2, bnd_e e3, nI_or, chk_t (inb_nI (show colN n V (EG T (bfr i (pc T) w 0)) ||| gbN n V (el T i) < 64 by omega) (by omega)), chk_t (inb_nI (show colN n V (EG T (bfr i (pc T) w 0)) < 64 by omega) (by omega)), nI_clamp (show colN n V (EG T (bfr i (pc T) w 0)) ||| gbN n V (el T i) < 2 ^ 31 by omega), nI_clamp (show colN n V (EG T (bfr i (pc T) w 0)) < 2 ^ 31 by omega), s1, h12 _ l1, h12 _ l2, nI_1, sm, brT, ← gb_col, Int64.ofInt_add, Int64.ofInt_sub, ↓reduceIte]
    · obtain ⟨x, y, M1⟩ := s
      obtain ⟨rfl, rfl, hx, b17, b13⟩ := hp
      dsimp only at hx b17 b13
      have k1 : nI (fct (pc T)) ≤ nI (fct (pc T)) := nI_le (by omega) (by omega)
      refine ⟨(Int64.ofInt (shC n R B V (el T i) false), nI (fct (pc T)), M1), ?_, rfl, hx, b17⟩
      simp only [p_Md_shareSum_L11, bnd_e (e_orders hm b17), k1, hsum, ↓reduceIte]
  obtain ⟨q, h1, h2, h3, h4⟩ := hq
  refine ⟨q.2.2, ?_, h3, h4⟩
  unfold p_Md_shareSum
  rw [bnd_e e0, bnd_e h1, h2]
end PS
