theorem bit_t : ∀ s, s < 64 → ∀ c, c < 6 → (((nI s >>> (nI c &&& 31)) &&& (1 : Int32)) = (1 : Int32) ↔ s.testBit c = true) := by decide +kernel
theorem shl_t : ∀ n, n < 7 → (1 : Int32) <<< (nI n &&& 31) = nI (2 ^ n) := by decide +kernel
theorem nI_mul (a b : Nat) : nI a * nI b = nI (a * b) := (Int32.ofNat_mul a b).symm
theorem nI_or (a b : Nat) : nI a ||| nI b = nI (a ||| b) := by
  apply Int32.toBitVec_inj.mp
  rw [Int32.toBitVec_or]
  show BitVec.ofNat 32 a ||| BitVec.ofNat 32 b = BitVec.ofNat 32 (a ||| b)
  exact Eq.symm BitVec.ofNat_or
theorem idx6 (r c : Nat) : (6 : Int32) * nI r + nI c = nI (6 * r + c) := by
  rw [show (6 : Int32) = nI 6 from rfl, nI_mul, nI_add]
theorem pw6 {n : Nat} (h : n ≤ 6) : 2 ^ n ≤ 64 := Nat.pow_le_pow_right (by omega) h
def mixr (V : Vw) (set r : Nat) : Nat → Int32 := fun c => if set.testBit c = true then itm V 0 c else itm V r c
def tot (R B : Nat) (V : Vw) (set : Nat) : Int := sm (fun r => ans R V (mixr V set (r + 1))) B
def X20 (M M' : Mem) : Prop := M'.2 = M.2 ∧ ∀ k, k ≠ 20 → M'.1 k = M.1 k
theorem X20.rf {M : Mem} : X20 M M := ⟨rfl, fun _ _ => rfl⟩
theorem X20.tr {M M' M'' : Mem} (h : X20 M M') (h' : X20 M' M'') : X20 M M'' := ⟨h'.1.trans h.1, fun k hk => (h'.2 k hk).trans (h.2 k hk)⟩
theorem X20.w {M M' : Mem} (h : X20 M M') {i v : Int32} : X20 M (wI M' 20 i v) := ⟨h.1, fun k hk => by
  show (if k = 20 then _ else M'.1 k) = _
  rw [if_neg hk]
  exact h.2 k hk⟩
def XT (M M' : Mem) : Prop := (∀ k, k ≠ 11 → M'.1 k = M.1 k) ∧ ∀ k, k ≠ 12 → M'.2 k = M.2 k
theorem XT.rf {M : Mem} : XT M M := ⟨fun _ _ => rfl, fun _ _ => rfl⟩
theorem XT.tr {M M' M'' : Mem} (h : XT M M') (h' : XT M' M'') : XT M M'' := ⟨fun k hk => (h'.1 k hk).trans (h.1 k hk), fun k hk => (h'.2 k hk).trans (h.2 k hk)⟩
theorem XT.w {M M' : Mem} (h : XT M M') {i v : Int32} : XT M (wI M' 11 i v) := ⟨fun k hk => by
  show (if k = 11 then _ else M'.1 k) = _
  rw [if_neg hk]
  exact h.1 k hk, h.2⟩
theorem XT.l {M M' : Mem} (h : XT M M') {i : Int32} {v : Int64} : XT M (wL M' 12 i v) := ⟨h.1, fun k hk => by
  show (if k = 12 then _ else M'.2 k) = _
  rw [if_neg hk]
  exact h.2 k hk⟩
theorem wI_at {M : Mem} {k i : Nat} {v : Int32} (hi : i < 2 ^ 31) (j : Nat) : (wI M k (nI i) v).1 k j = if j = i then v else M.1 k j := by
  show (if k = k then upd (M.1 k) (nI i).toNatClampNeg v else M.1 k) j = _
  rw [if_pos rfl, nI_clamp hi]
  rfl
theorem wL_at {M : Mem} {k i : Nat} {v : Int64} (hi : i < 2 ^ 31) (j : Nat) : (wL M k (nI i) v).2 k j = if j = i then v else M.2 k j := by
  show (if k = k then vp_updL (M.2 k) (nI i).toNatClampNeg v else M.2 k) j = _
  rw [if_pos rfl, nI_clamp hi]
  rfl
section PS
variable {n N R B : Nat} {V : Vw} {M : Mem}
theorem RC.x {M' : Mem} (C : RC N R B V M) (hB : B ≤ 5) (h : X20 M M') : RC N R B V M' := C.of hB (fun k hk => h.2 k (by omega)) (by rw [h.2 24 (by omega)])
theorem RT.x {M' : Mem} (T : RT V M) (h : XT M M') : RT V M' := T.of (fun k _ hk => h.1 k (by omega)) (fun j _ => by rw [h.1 0 (by omega)])
theorem mixr_bd (W : WF n N R B V) {set r : Nat} (hr : r ≤ 5) : ∀ c, c < 6 → -100 ≤ (mixr V set r c).toInt ∧ (mixr V set r c).toInt ≤ 100 := fun c hc => by
  unfold mixr
  split
  · exact itm_bd W (by omega) c hc
  · exact itm_bd W hr c hc
theorem e_mix (W : WF n N R B V) (C : RC N R B V M) {set r : Nat} (hs : set < 64) (hr : r < B) : ∃ M', p_Me_mix (nI set) 10 (12 + r) M = some M' ∧ X20 M M' ∧ ∀ c, c < 6 → M'.1 20 c = mixr V set (r + 1) c := by
  have hb := W.2.1
  have hq := itr_run (f := fun s => p_Me_mix_L3 (nI set) 10 (12 + r) s.1 s.2) (fun i s => s.1 = nI i ∧ X20 M s.2 ∧ ∀ c, c < i → s.2.1 20 c = mixr V set (r + 1) c) (fun q => X20 M q.2 ∧ ∀ c, c < 6 → q.2.1 20 c = mixr V set (r + 1) c) 6 (n := zfu) (s := ((0 : Int32), M)) (zfu_gt (by omega)) ⟨rfl, X20.rf, fun c h => by omega⟩ (fun i s hi hp => ?_) (fun s hp => ?_)
  · obtain ⟨q, h1, h2⟩ := hq
    refine ⟨q.2, ?_, h2⟩
    unfold p_Me_mix
    rw [bnd_e h1]
  · obtain ⟨x, M1⟩ := s
    obtain ⟨rfl, hx, hc⟩ := hp
    dsimp only at hx hc
    have k1 : ¬ (6 : Int32) ≤ nI i := nI_ge (b := 6) (by omega) (by omega)
    have k2 : inb (nI i) 6 = true := inb_nI (by omega) (by omega)
    have C1 := C.x hb.2.2.2.2 hx
    have ei : (nI i).toNatClampNeg = i := nI_clamp (by omega)
    have al := al12 (r := r) (by omega)
    by_cases cb : set.testBit i = true
    · have cb' := (bit_t set hs i hi).mpr cb
      refine ⟨.inl (nI (i + 1), wI M1 20 (nI i) (itm V 0 i)), ?_, rfl, hx.w, fun c hc2 => ?_⟩
      · simp only [p_Me_mix_L3, k1, k2, cb', show alenC 10 = 6 from rfl, chk_true, nm_s, ei, row0 C1 i hi, nI_1, ↓reduceIte]
      · rw [wI_at (by omega)]
        split
        · next e => subst e; simp only [mixr, cb, ↓reduceIte]
        · exact hc c (by omega)
    · have cb' := mt (bit_t set hs i hi).mp cb
      refine ⟨.inl (nI (i + 1), wI M1 20 (nI i) (itm V (r + 1) i)), ?_, rfl, hx.w, fun c hc2 => ?_⟩
      · simp only [p_Me_mix_L3, k1, k2, cb', al, chk_true, nm_s, ei, rowC C1 hr i hi, nI_1, ↓reduceIte]
      · rw [wI_at (by omega)]
        split
        · next e => subst e; simp only [mixr, cb, ↓reduceIte, Bool.false_eq_true]
        · exact hc c (by omega)
  · obtain ⟨x, M1⟩ := s
    obtain ⟨rfl, hx, hc⟩ := hp
    exact ⟨(nI 6, M1), by simp only [p_Me_mix_L3, show (6 : Int32) ≤ nI 6 by decide, ↓reduceIte], hx, hc⟩
theorem e_total (W : WF n N R B V) (C : RC N R B V M) {set : Nat} (hs : set < 64) : ∃ M', p_Me_total (nI set) M = some (Int64.ofInt (tot R B V set), M') ∧ X20 M M' := by
  have hb := W.2.1
  have hq := itr_run (f := fun s => p_Me_total_L5 (nI set) s.1 s.2.1 s.2.2) (fun i s => s.1 = Int64.ofInt (sm (fun r => ans R V (mixr V set (r + 1))) i) ∧ s.2.1 = nI i ∧ X20 M s.2.2) (fun q => q.1 = Int64.ofInt (tot R B V set) ∧ X20 M q.2.2) B (n := zfu) (s := ((0 : Int64), (0 : Int32), M)) (zfu_gt (by omega)) ⟨rfl, rfl, X20.rf⟩ (fun i s hi hp => ?_) (fun s hp => ?_)
  · obtain ⟨q, h1, h2⟩ := hq
    refine ⟨q.2.2, ?_, h2.2⟩
    unfold p_Me_total
    rw [bnd_e h1, h2.1]
  · obtain ⟨x, y, M1⟩ := s
    obtain ⟨rfl, rfl, hx⟩ := hp
    dsimp only at hx
    have C1 := C.x hb.2.2.2.2 hx
    have k1 : ¬ M1.1 9 2 ≤ nI i := by rw [C1.1.2.2.2.2.2, W.1.2.2.2]; exact nI_ge (by omega) (by omega)
    obtain ⟨M2, e2, x2, c2⟩ := e_mix W C1 hs hi
    have C2 := C1.x hb.2.2.2.2 x2
    have e3 := e_sumFor (a1 := 20) (row := mixr V set (i + 1)) W C2 c2 rfl
    have bd := ans_bound (row := mixr V set (i + 1)) W (mixr_bd W (by omega))
    refine ⟨.inl (Int64.ofInt (sm (fun r => ans R V (mixr V set (r + 1))) (i + 1)), nI (i + 1), M2), ?_, rfl, rfl, hx.tr x2⟩
    simp only [p_Me_total_L5, p_Rw_count, bnd_s, k1, e_at0, e_at (show i < 5 by omega), e2, e3, toL_of (show -2147483648 ≤ ans R V (mixr V set (i + 1)) by omega) (by omega), nI_1, sm, Int64.ofInt_add, ↓reduceIte]
  · obtain ⟨x, y, M1⟩ := s
    obtain ⟨rfl, rfl, hx⟩ := hp
    dsimp only at hx
    have C1 := C.x hb.2.2.2.2 hx
    have k1 : M1.1 9 2 ≤ nI B := by rw [C1.1.2.2.2.2.2, W.1.2.2.2]; exact nI_le (by omega) (by omega)
    exact ⟨(Int64.ofInt (tot R B V set), nI B, M1), by simp only [p_Me_total_L5, p_Rw_count, bnd_s, k1, ↓reduceIte]; rfl, rfl, hx⟩
theorem e_brought (W : WF n N R B V) (C : RC N R B V M) {a b : Nat} (ha : a < 64) (hab : a ||| b < 64) : ∃ M', p_Me_brought (nI a) (nI b) M = some (Int64.ofInt (tot R B V (a ||| b) - tot R B V a), M') ∧ X20 M M' := by
  have hb := W.2.1
  obtain ⟨M1, e1, x1⟩ := e_total W C hab
  obtain ⟨M2, e2, x2⟩ := e_total W (C.x hb.2.2.2.2 x1) ha
  refine ⟨M2, ?_, x1.tr x2⟩
  have eo := nI_or a b
  unfold p_Me_brought
  rw [eo, bnd_e e1]
  dsimp only
  rw [bnd_e e2, Int64.ofInt_sub]
end PS
