/-! the bound within a box -/
def X6 (M M' : Mem) : Prop := M'.2 = M.2 ∧ ∀ k, k ≠ 6 → M'.1 k = M.1 k
theorem X6.rf {M : Mem} : X6 M M := ⟨rfl, fun _ _ => rfl⟩
theorem X6.w {M M' : Mem} (h : X6 M M') {i v : Int32} : X6 M (wI M' 6 i v) := ⟨h.1, fun k a => by rw [wI_ne a]; exact h.2 k a⟩
def bx (n : Nat) (lo hi y : Nat → Int32) : Prop := ∀ c, c < n → (lo c).toInt ≤ (y c).toInt ∧ (y c).toInt ≤ (hi c).toInt
def pk (n : Nat) (V : Vw) (lo hi : Nat → Int32) (j : Nat) (p : Int32) : Prop := (∀ y, bx n lo hi y → (V 2 (leafN V y j)).toInt ≤ p.toInt) ∧ (∀ y, eqn n lo y → eqn n hi y → p = V 2 (leafN V y j)) ∧ -1000 ≤ p.toInt ∧ p.toInt ≤ 1000
theorem sm_le {f g : Nat → Int} : ∀ {k : Nat}, (∀ i, i < k → f i ≤ g i) → sm f k ≤ sm g k := by
  intro k
  induction k with
  | zero => intro _; exact Int.le_refl _
  | succ k ih => intro h; simp only [sm]; have := ih (fun i hi => h i (by omega)); have := h k (by omega); omega
section PS
variable {n N R B : Nat} {V : Vw} {M : Mem}
theorem lfN_l {y : Nat → Int32} {j : Nat} (h : V 1 j ≠ 0) : leafN V y j = j := by
  unfold leafN
  rw [lfN, if_neg h]
theorem lfN_s (W : WF n N R B V) {y : Nat → Int32} {j : Nat} (hj : j < N) (h : V 1 j = 0) (h4 : inb (V 4 j) j = true) (h5 : inb (V 5 j) j = true) : leafN V y j = if V 2 j < y (V 3 j).toNatClampNeg then leafN V y (V 5 j).toNatClampNeg else leafN V y (V 4 j).toNatClampNeg := by
  have hb := W.2.1
  have e4 := (inb_eq h4).2
  have e5 := (inb_eq h5).2
  have f4 := lf_fuel (row := y) W 30 31 (V 4 j).toNatClampNeg (by omega) (by omega) (by omega)
  have f5 := lf_fuel (row := y) W 30 31 (V 5 j).toNatClampNeg (by omega) (by omega) (by omega)
  show lfN V y 31 j = if _ then lfN V y 31 _ else lfN V y 31 _
  rw [← f4, ← f5, show (31 : Nat) = 30 + 1 from rfl, lfN, if_pos h]
theorem e_peakOf (W : WF n N R B V) (C : RC N R B V M) {j : Nat} (hj : j < N) (hp : ∀ q, q < j → pk n V (M.1 34) (M.1 35) q (M.1 6 q)) (hlh : ∀ c, c < n → (M.1 34 c).toInt ≤ (M.1 35 c).toInt) : ∃ p, p_Ln_peakOf (nI j) 34 35 M = some p ∧ pk n V (M.1 34) (M.1 35) j p := by
  have hb := W.2.1
  have k1 : inb (nI j) 30 = true := inb_nI (by omega) (by omega)
  have kj := nI_clamp (show j < 2 ^ 31 by omega)
  obtain ⟨c1, c2, c3⟩ := C.2.1 j hj
  obtain ⟨v2, hh⟩ := W.2.2.1 j hj
  unfold p_Ln_peakOf
  rw [kj, chk_t k1]
  rcases hh with h0 | ⟨h0, h1, h4, h5⟩
  · have n0 : V 1 j ≠ 0 := by rw [h0]; decide
    rw [c2 n0, if_pos rfl, chk_t k1, c1]
    exact ⟨_, rfl, fun y _ => by rw [lfN_l n0]; exact Int.le_refl _, fun y _ _ => by rw [lfN_l n0], v2⟩
  · obtain ⟨d1, d2, d3⟩ := c3 h0
    obtain ⟨s1, s2⟩ := inb_eq h1
    have e4 := (inb_eq h4).2
    have e5 := (inb_eq h5).2
    have nm1 : ¬ V 3 j = -1 := by
      rw [s1]; intro q
      have := congrArg Int32.toInt q
      rw [nI_toInt (by omega), show (-1 : Int32).toInt = -1 from rfl] at this
      omega
    have k3 : inb (V 3 j) (alenC 35) = true := inb_mono h1 hb.2.1
    have k3' : inb (V 3 j) (alenC 34) = true := inb_mono h1 hb.2.1
    have k4 : inb (V 4 j) 30 = true := inb_mono h4 (by omega)
    have k5 : inb (V 5 j) 30 = true := inb_mono h5 (by omega)
    have st := fun y : Nat → Int32 => lfN_s (y := y) W hj h0 h4 h5
    rw [d1, if_neg nm1, chk_t k3, chk_t k1, c1]
    generalize (V 3 j).toNatClampNeg = s at *
    obtain ⟨p41, p42, p43⟩ := hp _ e4
    obtain ⟨p51, p52, p53⟩ := hp _ e5
    have hs := hlh s s2
    by_cases b1 : V 2 j < M.1 35 s
    · rw [if_pos b1, chk_t k3', chk_t k1]
      have b1' := Int32.lt_iff_toInt_lt.mp b1
      by_cases b2 : M.1 34 s ≤ V 2 j
      · have b2' := Int32.le_iff_toInt_le.mp b2
        rw [if_pos b2, chk_t k1, d2, chk_t k4, chk_t k1, d3, chk_t k5]
        refine ⟨_, rfl, fun y hy => ?_, fun y e1 e2 => ?_, ?_⟩
        · have i4 := p41 y hy
          have i5 := p51 y hy
          rw [st y]
          by_cases q : M.1 6 (V 4 j).toNatClampNeg < M.1 6 (V 5 j).toNatClampNeg
          · rw [if_pos q]; rw [Int32.lt_iff_toInt_lt] at q; split <;> omega
          · rw [if_neg q]; rw [Int32.lt_iff_toInt_lt] at q; split <;> omega
        · rw [e1 s s2] at b2'
          rw [e2 s s2] at b1'
          omega
        · split <;> assumption
      · have b2' : (V 2 j).toInt < (M.1 34 s).toInt := by rw [Int32.le_iff_toInt_le] at b2; omega
        rw [if_neg b2, chk_t k1, d3, chk_t k5]
        refine ⟨_, rfl, fun y hy => ?_, fun y e1 e2 => ?_, p53⟩
        · rw [st y, if_pos (Int32.lt_iff_toInt_lt.mpr (by have := (hy s s2).1; omega))]; exact p51 y hy
        · rw [st y, if_pos (by rw [← e2 s s2]; exact b1)]; exact p52 y e1 e2
    · have b1' : (M.1 35 s).toInt ≤ (V 2 j).toInt := by rw [Int32.lt_iff_toInt_lt] at b1; omega
      rw [if_neg b1, chk_t k1, d2, chk_t k4]
      refine ⟨_, rfl, fun y hy => ?_, fun y e1 e2 => ?_, p43⟩
      · rw [st y, if_neg (fun q => by rw [Int32.lt_iff_toInt_lt] at q; have := (hy s s2).2; omega)]; exact p41 y hy
      · rw [st y, if_neg (by rw [← e2 s s2]; exact b1)]; exact p42 y e1 e2
theorem wmax {w l h y : Int} (h1 : l ≤ y) (h2 : y ≤ h) : w * y ≤ (if w * l < w * h then w * h else w * l) := by
  by_cases c : 0 ≤ w
  · have a := Int.mul_le_mul_of_nonneg_left h2 c
    split <;> omega
  · have a := Int.mul_le_mul_of_nonpos_left (show w ≤ 0 by omega) h1
    split <;> omega
theorem e_bound (W : WF n N R B V) (C : RC N R B V M) (hlh : ∀ c, c < n → -100 ≤ (M.1 34 c).toInt ∧ (M.1 34 c).toInt ≤ (M.1 35 c).toInt ∧ (M.1 35 c).toInt ≤ 100) : ∃ b M', p_Ln_boundWithin 34 35 M = some (Int32.ofInt b, M') ∧ X6 M M' ∧ (-16000 ≤ b ∧ b ≤ 16000) ∧ (∀ y, bx n (M.1 34) (M.1 35) y → ans R V y ≤ b) ∧ ∀ y, eqn n (M.1 34) y → eqn n (M.1 35) y → b = ans R V y := by
  have hb := W.2.1
  have hq : ∃ q : Int32 × Mem, itr zfu (fun s => p_Ln_boundWithin_L2 34 35 s.1 s.2) ((0 : Int32), M) = some q ∧ X6 M q.2 ∧ ∀ j, j < N → pk n V (M.1 34) (M.1 35) j (q.2.1 6 j) := by
    refine itr_run (σ := Int32 × Mem) (ρ := Int32 × Mem) (fun i s => s.1 = nI i ∧ X6 M s.2 ∧ ∀ j, j < i → pk n V (M.1 34) (M.1 35) j (s.2.1 6 j)) (fun q => X6 M q.2 ∧ ∀ j, j < N → pk n V (M.1 34) (M.1 35) j (q.2.1 6 j)) N (zfu_gt (by omega)) ⟨rfl, X6.rf, fun j hj => by omega⟩ (fun i s hi hp => ?_) (fun s hp => ?_)
    · obtain ⟨x, M1⟩ := s
      obtain ⟨rfl, hx, hk⟩ := hp
      dsimp only at hx hk
      have C1 : RC N R B V M1 := C.of hb.2.2.2.2 (fun k hk => hx.2 k (by omega)) (by rw [hx.2 24 (by omega)])
      have k0 : M1.1 1 7 = nI N := C1.1.2.2.2.1.trans W.1.2.1
      have k1 : ¬ nI N ≤ nI i := nI_ge (by omega) (by omega)
      have k2 : inb (nI i) 30 = true := inb_nI (by omega) (by omega)
      have e34 := hx.2 34 (by omega)
      have e35 := hx.2 35 (by omega)
      obtain ⟨p, p1, p2⟩ := e_peakOf W C1 hi (by rw [e34, e35]; exact hk) (by rw [e34, e35]; exact fun c hc => (hlh c hc).2.1)
      rw [e34, e35] at p2
      refine ⟨.inl (nI (i + 1), wI M1 6 (nI i) p), ?_, rfl, hx.w, fun j hj => ?_⟩
      · simp only [p_Ln_boundWithin_L2, k0, k1, bnd_e p1, k2, chk_true, nm_s, nI_1, ↓reduceIte]
      · dsimp only
        rw [wI_at (by omega)]
        by_cases e : j = i
        · rw [if_pos e, e]; exact p2
        · rw [if_neg e]; exact hk j (by omega)
    · obtain ⟨x, M1⟩ := s
      obtain ⟨rfl, hx, hk⟩ := hp
      dsimp only at hx hk
      have C1 : RC N R B V M1 := C.of hb.2.2.2.2 (fun k hk => hx.2 k (by omega)) (by rw [hx.2 24 (by omega)])
      have k0 : M1.1 1 7 = nI N := C1.1.2.2.2.1.trans W.1.2.1
      have k1 : nI N ≤ nI N := nI_le (by omega) (by omega)
      exact ⟨(nI N, M1), by simp only [p_Ln_boundWithin_L2, k0, k1, ↓reduceIte], hx, hk⟩
  obtain ⟨⟨q, M1⟩, h1, hx, hk⟩ := hq
  dsimp only at hx hk
  have C1 : RC N R B V M1 := C.of hb.2.2.2.2 (fun k hk => hx.2 k (by omega)) (by rw [hx.2 24 (by omega)])
  have e34 := hx.2 34 (by omega)
  have e35 := hx.2 35 (by omega)
  have rt : ∀ i, i < R → (V 6 i).toNatClampNeg < N := fun i hi => (inb_eq (W.2.2.2.1 i hi)).2
  have h2 : itr zfu (fun s => p_Ln_boundWithin_L34 (q, M1) s.1 s.2) ((0 : Int32), (0 : Int32)) = some (Int32.ofInt (sm (fun k => (M1.1 6 (V 6 k).toNatClampNeg).toInt) R), nI R) := by
    refine itr_st (fun i => (Int32.ofInt (sm (fun k => (M1.1 6 (V 6 k).toNatClampNeg).toInt) i), nI i)) R (zfu_gt (by omega)) (fun i hi => ?_) ?_
    · have k1 : ¬ M1.1 1 8 ≤ nI i := by rw [C1.1.2.2.2.2.1, W.1.2.2.1]; exact nI_ge (by omega) (by omega)
      have k2 : inb (nI i) 4 = true := inb_nI (by omega) (by omega)
      have k3 : inb (V 6 i) 30 = true := inb_mono (W.2.2.2.1 i hi) (by omega)
      simp only [p_Ln_boundWithin_L34, k1, k2, chk_true, nI_clamp (show i < 2 ^ 31 by omega), C1.2.2.1 i hi, k3, ofI_add, nI_1, sm, ↓reduceIte]
    · have k1 : M1.1 1 8 ≤ nI R := by rw [C1.1.2.2.2.2.1, W.1.2.2.1]; exact nI_le (by omega) (by omega)
      simp only [p_Ln_boundWithin_L34, k1, ↓reduceIte]
  have wb : ∀ c, c < 6 → ((V 7 c * M.1 34 c).toInt = (V 7 c).toInt * (if c < n then (M.1 34 c).toInt else 0)) ∧ ((V 7 c * M.1 35 c).toInt = (V 7 c).toInt * (if c < n then (M.1 35 c).toInt else 0)) := fun c hc => by
    by_cases e : c < n
    · have := hlh c e
      rw [if_pos e, if_pos e]
      exact ⟨(mul_toI (W.2.2.2.2.1 c hc).1 (B := 100) ⟨by omega, by omega⟩ (by omega) (by omega)).1, (mul_toI (W.2.2.2.2.1 c hc).1 (B := 100) ⟨by omega, by omega⟩ (by omega) (by omega)).1⟩
    · rw [if_neg e, if_neg e, (W.2.2.2.2.1 c hc).2 (by omega), Int32.zero_mul, Int32.zero_mul]
      exact ⟨by decide, by decide⟩
  let f : Nat → Int := fun c => if (V 7 c * M.1 34 c).toInt < (V 7 c * M.1 35 c).toInt then (V 7 c * M.1 35 c).toInt else (V 7 c * M.1 34 c).toInt
  have hf : f = fun c => if (V 7 c * M.1 34 c).toInt < (V 7 c * M.1 35 c).toInt then (V 7 c * M.1 35 c).toInt else (V 7 c * M.1 34 c).toInt := rfl
  have h3 : ∀ A : Int, itr zfu (fun s => p_Ln_boundWithin_L67 34 35 (q, M1) s.1 s.2) (Int32.ofInt A, (0 : Int32)) = some (Int32.ofInt (A + sm f 6), nI 6) := fun A => by
    have h9 := itr_st (f := fun s => p_Ln_boundWithin_L67 34 35 (q, M1) s.1 s.2) (fun i => (Int32.ofInt (A + sm f i), nI i)) 6 (r := (Int32.ofInt (A + sm f 6), nI 6)) (n := zfu) (zfu_gt (by omega)) (fun i hi => ?_) ?_
    · rw [← h9]
      simp only [sm, Int.add_zero]
      rfl
    rotate_left
    · have k1 : (6 : Int32) ≤ nI 6 := by decide
      simp only [p_Ln_boundWithin_L67, k1, ↓reduceIte]
    have k1 : ¬ (6 : Int32) ≤ nI i := nI_ge (b := 6) (by omega) (by omega)
    have k2 : inb (nI i) 6 = true := inb_nI (by omega) (by omega)
    have k34 : inb (nI i) (alenC 34) = true := k2
    have k35 : inb (nI i) (alenC 35) = true := k2
    have fe : (if V 7 i * M.1 34 i < V 7 i * M.1 35 i then V 7 i * M.1 35 i else V 7 i * M.1 34 i) = Int32.ofInt (f i) := by
      rw [hf]
      dsimp only
      by_cases e : V 7 i * M.1 34 i < V 7 i * M.1 35 i
      · rw [if_pos e, if_pos (Int32.lt_iff_toInt_lt.mp e), Int32.ofInt_toInt]
      · rw [if_neg e, if_neg (mt Int32.lt_iff_toInt_lt.mpr e), Int32.ofInt_toInt]
    simp only [p_Ln_boundWithin_L67, k1, k2, k34, k35, chk_true, nI_clamp (show i < 2 ^ 31 by omega), C1.2.2.2.1 i hi, e34, e35, fe, nI_1, sm, Int32.ofInt_add, Int32.add_assoc, ↓reduceIte]
  have fb : ∀ c, c < 6 → -2000 ≤ f c ∧ f c ≤ 2000 := fun c hc => by
    obtain ⟨u1, u2⟩ := wb c hc
    have g1 : -2000 ≤ (V 7 c * M.1 34 c).toInt ∧ (V 7 c * M.1 34 c).toInt ≤ 2000 := by
      rw [u1]
      by_cases e : c < n
      · have := hlh c e
        rw [if_pos e]
        have := (mul_toI (x := V 7 c) (y := M.1 34 c) (W.2.2.2.2.1 c hc).1 (B := 100) ⟨by omega, by omega⟩ (by omega) (by omega)).2
        omega
      · rw [if_neg e, Int.mul_zero]; omega
    have g2 : -2000 ≤ (V 7 c * M.1 35 c).toInt ∧ (V 7 c * M.1 35 c).toInt ≤ 2000 := by
      rw [u2]
      by_cases e : c < n
      · have := hlh c e
        rw [if_pos e]
        have := (mul_toI (x := V 7 c) (y := M.1 35 c) (W.2.2.2.2.1 c hc).1 (B := 100) ⟨by omega, by omega⟩ (by omega) (by omega)).2
        omega
      · rw [if_neg e, Int.mul_zero]; omega
    rw [hf]
    dsimp only
    split <;> assumption
  have s1 := sm_bound (f := f) (C := 2000) (k := 6) fb
  have s2 := sm_bound (f := fun k => (M1.1 6 (V 6 k).toNatClampNeg).toInt) (C := 1000) (k := R) (fun k hk2 => (hk _ (rt k hk2)).2.2)
  refine ⟨sm (fun k => (M1.1 6 (V 6 k).toNatClampNeg).toInt) R + sm f 6, M1, ?_, hx, ?_, fun y hy => ?_, fun y e1 e2 => ?_⟩
  · unfold p_Ln_boundWithin
    rw [bnd_e h1, bnd_e h2]
    dsimp only
    rw [bnd_e (h3 _)]
  · omega
  · have t1 : sm (fun k => (V 2 (leafN V y (V 6 k).toNatClampNeg)).toInt) R ≤ sm (fun k => (M1.1 6 (V 6 k).toNatClampNeg).toInt) R := sm_le (fun i hi => (hk _ (rt i hi)).1 y hy)
    have t2 : sm (fun c => (V 7 c).toInt * (y c).toInt) 6 ≤ sm f 6 := sm_le (fun c hc => by
      obtain ⟨u1, u2⟩ := wb c hc
      rw [hf]
      dsimp only
      rw [u1, u2]
      by_cases e : c < n
      · rw [if_pos e, if_pos e]; exact wmax (hy c e).1 (hy c e).2
      · rw [if_neg e, if_neg e, Int.mul_zero, (W.2.2.2.2.1 c hc).2 (by omega), show (0 : Int32).toInt = 0 from rfl, Int.zero_mul]; decide)
    unfold ans; omega
  · have t1 : sm (fun k => (M1.1 6 (V 6 k).toNatClampNeg).toInt) R = sm (fun k => (V 2 (leafN V y (V 6 k).toNatClampNeg)).toInt) R := sm_congr (fun i hi => by rw [(hk _ (rt i hi)).2.1 y e1 e2])
    have t2 : sm f 6 = sm (fun c => (V 7 c).toInt * (y c).toInt) 6 := sm_congr (fun c hc => by
      obtain ⟨u1, u2⟩ := wb c hc
      rw [hf]
      dsimp only
      rw [u1, u2]
      by_cases e : c < n
      · rw [if_pos e, if_pos e, e1 c e, e2 c e, if_neg (by omega)]
      · rw [if_neg e, if_neg e, Int.mul_zero, (W.2.2.2.2.1 c hc).2 (by omega), show (0 : Int32).toInt = 0 from rfl, Int.zero_mul]; decide)
    unfold ans; rw [t1, t2]
end PS
