/-! drawn: the same draws -/
def lcg (z : Int32) : Int32 := z * (1103515245 : Int32) + (12345 : Int32)
def us (z : Int32) : Nat := (z.toUInt32 >>> (16 : UInt32)).toNat
theorem us_lt (z : Int32) : us z < 65536 := by
  unfold us
  rw [UInt32.toNat_shiftRight]
  have := z.toUInt32.toNat_lt
  rw [show (16 : UInt32).toNat % 32 = 16 from rfl, Nat.shiftRight_eq_div_pow]
  omega
theorem us_t (z : Int32) : zush z 16 = nI (us z) := by
  unfold zush us nI
  rw [show (Int32.toUInt32 16 &&& Int32.toUInt32 31) = (16 : UInt32) from by decide]
  generalize z.toUInt32 >>> (16 : UInt32) = u
  show u.toInt32 = (UInt32.ofNat u.toNat).toInt32
  rw [UInt32.ofNat_toNat]
def sw (o : Nat → Nat) (i j : Nat) : Nat → Nat := fun k => if k = j then o i else if k = i then o j else o k
def ds (m : Nat) (z : Int32) : Nat → Int32 × (Nat → Nat)
  | 0 => (z, fun k => k)
  | i + 1 => (lcg (ds m z i).1, sw (ds m z i).2 (m - 1 - i) (us (lcg (ds m z i).1) % (m - 1 - i + 1)))
def prm (m : Nat) (o : Nat → Nat) : Prop := (∀ k, k < m → o k < m) ∧ ∀ v, v < m → ∃ k, k < m ∧ o k = v
theorem prm_sw {m i j : Nat} {o : Nat → Nat} (h : prm m o) (hi : i < m) (hj : j < m) : prm m (sw o i j) := by
  refine ⟨fun k hk => ?_, fun v hv => ?_⟩
  · unfold sw
    split
    · exact h.1 i hi
    · split
      · exact h.1 j hj
      · exact h.1 k hk
  · obtain ⟨k, h1, h2⟩ := h.2 v hv
    by_cases e1 : k = i
    · exact ⟨j, hj, by unfold sw; rw [if_pos rfl, ← e1]; exact h2⟩
    · by_cases e2 : k = j
      · refine ⟨i, hi, ?_⟩
        unfold sw
        rw [if_neg (fun q => e1 (e2.trans q.symm)), if_pos rfl, ← e2]; exact h2
      · exact ⟨k, h1, by unfold sw; rw [if_neg e2, if_neg e1]; exact h2⟩
theorem ds_prm {m : Nat} {z : Int32} : ∀ {i : Nat}, i + 1 ≤ m → prm m (ds m z i).2 := by
  intro i
  induction i with
  | zero => intro _; exact ⟨fun k hk => hk, fun v hv => ⟨v, hv, rfl⟩⟩
  | succ i ih =>
    intro h
    exact prm_sw (ih (by omega)) (by omega) (by have := Nat.mod_lt (us (lcg (ds m z i).1)) (show 0 < m - 1 - i + 1 by omega); omega)
def zs (m : Nat) (z : Int32) : Nat → Int32
  | 0 => z
  | w + 1 => (ds m (zs m z w) (m - 1)).1
def od (m : Nat) (z : Int32) (w : Nat) : Nat → Nat := (ds m (zs m z w) (m - 1)).2
theorem od_prm {m : Nat} {z : Int32} {w : Nat} (h : 0 < m) : prm m (od m z w) := ds_prm (by omega)
theorem od_k0 {m : Nat} {z : Int32} {i : Nat} (h : i < m) : ∃ k0 : Nat → Nat, ∀ w, k0 w < m ∧ od m z w (k0 w) = i ∧ ∀ j, j < k0 w → ¬ od m z w j = i := by
  have H : ∀ w, ∃ k, k < m ∧ od m z w k = i ∧ ∀ j, j < k → ¬ od m z w j = i := fun w => least ((od_prm (z := z) (w := w) (show 0 < m by omega)).2 i h)
  exact ⟨fun w => Classical.choose (H w), fun w => Classical.choose_spec (H w)⟩
theorem colN_orf {n N R B : Nat} {V : Vw} (W : WF n N R B V) {f : Nat → Nat} : ∀ {k : Nat}, colN n V (orf f k) = orf (fun j => colN n V (f j)) k := by
  intro k
  induction k with
  | zero =>
    simp only [orf]
    refine bits_ext (colN_lt W) (by omega) (fun c _ => ?_)
    rw [colN_bit]
    exact ⟨fun h => (by have := h.2; rw [Nat.zero_testBit] at this; cases this), fun h => (by rw [Nat.zero_testBit] at h; cases h)⟩
  | succ k ih => simp only [orf]; rw [colN_or W, ih]
def XD (M M' : Mem) : Prop := M'.2 = M.2 ∧ ∀ k, k ≠ 20 → k ≠ 22 → k ≠ 23 → M'.1 k = M.1 k
theorem XD.rf {M : Mem} : XD M M := ⟨rfl, fun _ _ _ _ => rfl⟩
theorem XD.tr {M M' M'' : Mem} (h : XD M M') (h' : XD M' M'') : XD M M'' := ⟨h'.1.trans h.1, fun k a b c => (h'.2 k a b c).trans (h.2 k a b c)⟩
theorem XD.w {M M' : Mem} (h : XD M M') {i v : Int32} : XD M (wI M' 23 i v) := ⟨h.1, fun k a b c => by rw [wI_ne c]; exact h.2 k a b c⟩
theorem XD.f {M M' : Mem} (h : XD M M') {j : Nat} {v : Int32} : XD M (wF M' 22 j v) := ⟨h.1, fun k a b c => by rw [wF_ne b]; exact h.2 k a b c⟩
theorem XD.of {M M' : Mem} (h : X20 M M') : XD M M' := ⟨h.1, fun k a _ _ => h.2 k a⟩
theorem wF_o2 {M : Mem} {k j i : Nat} {v : Int32} (h : i ≠ j) : (wF M k j v).1 k i = M.1 k i := by
  show (if k = k then upd (M.1 k) j v else M.1 k) i = _
  rw [if_pos rfl]
  exact if_neg h
section PS
variable {n N R B : Nat} {V : Vw} {M : Mem}
theorem RC.d {M' : Mem} (C : RC N R B V M) (hB : B ≤ 5) (h : XD M M') : RC N R B V M' := C.of hB (fun k hk => h.2 k (by omega) (by omega) (by omega)) (by rw [h.2 24 (by omega) (by omega) (by omega)])
theorem e_lineUp (W : WF n N R B V) (C : RC N R B V M) : ∃ M', p_Or_lineUp M = some M' ∧ XD M M' ∧ M'.1 22 2 = nI (pc (thN n V)) ∧ M'.1 22 3 = M.1 22 3 ∧ ∀ k, k < pc (thN n V) → M'.1 23 k = nI (el (thN n V) k) := by
  have hT := thN_lt W
  have et := e_there W C
  generalize thN n V = T at hT et
  have hq : ∃ q : Int32 × Mem, itr zfu (fun s => p_Or_lineUp_L15 (nI T) s.1 s.2) ((0 : Int32), wF M 22 2 0) = some q ∧ XD M q.2 ∧ q.2.1 22 2 = nI (pc T) ∧ q.2.1 22 3 = M.1 22 3 ∧ ∀ k, k < pc T → q.2.1 23 k = nI (el T k) := by
    refine itr_run (σ := Int32 × Mem) (ρ := Int32 × Mem) (fun i s => s.1 = nI i ∧ XD M s.2 ∧ s.2.1 22 2 = nI (pc (T % 2 ^ i)) ∧ s.2.1 22 3 = M.1 22 3 ∧ ∀ k, k < pc (T % 2 ^ i) → s.2.1 23 k = nI (el T k)) (fun q => XD M q.2 ∧ q.2.1 22 2 = nI (pc T) ∧ q.2.1 22 3 = M.1 22 3 ∧ ∀ k, k < pc T → q.2.1 23 k = nI (el T k)) 6 (zfu_gt (by omega)) ⟨rfl, XD.rf.f, ?_, wF_o2 (by omega), ?_⟩ (fun i s hi hp => ?_) (fun s hp => ?_)
    · rw [Nat.pow_zero, Nat.mod_one]; exact wF_at
    · intro k hk; rw [Nat.pow_zero, Nat.mod_one] at hk; exact absurd hk (by simp [pc])
    · obtain ⟨x, M1⟩ := s
      obtain ⟨rfl, hx, h2, h3, hk⟩ := hp
      dsimp only at hx h2 h3 hk
      have k1 : ¬ (6 : Int32) ≤ nI i := nI_ge (b := 6) (by omega) (by omega)
      have kb := bit_t _ hT i hi
      by_cases e : T.testBit i = true
      · obtain ⟨t1, t2, t3⟩ := el_t T hT i hi e
        have hm := @pc_le T
        have k2 : inb (nI (pc (T % 2 ^ i))) 6 = true := inb_nI (by omega) (by omega)
        have h2' : (wI M1 23 (nI (pc (T % 2 ^ i))) (nI i)).1 22 2 = nI (pc (T % 2 ^ i)) := by rw [wI_ne (by omega : 22 ≠ 23)]; exact h2
        refine ⟨.inl (nI (i + 1), wF (wI M1 23 (nI (pc (T % 2 ^ i))) (nI i)) 22 2 (nI (pc (T % 2 ^ i) + 1))), ?_, rfl, hx.w.f, ?_, ?_, fun k hk2 => ?_⟩
        · simp only [p_Or_lineUp_L15, k1, kb, e, h2, k2, chk_true, nm_s, h2', nI_1, ↓reduceIte]
        · rw [t3]; exact wF_at
        · dsimp only; rw [wF_o2 (by omega), wI_ne (by omega : 22 ≠ 23)]; exact h3
        · dsimp only
          rw [wF_ne (by omega : 23 ≠ 22), wI_at (by omega)]
          rw [t3] at hk2
          by_cases q : k = pc (T % 2 ^ i)
          · rw [if_pos q, q, t1]
          · rw [if_neg q]; exact hk k (by omega)
      · refine ⟨.inl (nI (i + 1), M1), ?_, rfl, hx, ?_, h3, ?_⟩
        · simp only [p_Or_lineUp_L15, k1, kb, e, nI_1, ↓reduceIte, Bool.false_eq_true]
        · rw [el_f T hT i hi e]; exact h2
        · rw [el_f T hT i hi e]; exact hk
    · obtain ⟨x, M1⟩ := s
      obtain ⟨rfl, hx, h2, h3, hk⟩ := hp
      dsimp only at hx h2 h3 hk
      rw [Nat.mod_eq_of_lt (show T < 2 ^ 6 by omega)] at h2 hk
      have k1 : (6 : Int32) ≤ nI 6 := by decide
      exact ⟨(nI 6, M1), by simp only [p_Or_lineUp_L15, k1, ↓reduceIte], hx, h2, h3, hk⟩
  obtain ⟨q, h1, h2, h3, h4, h5⟩ := hq
  refine ⟨q.2, ?_, h2, h3, h4, h5⟩
  unfold p_Or_lineUp
  rw [bnd_e et, nm_s, bnd_e h1]
theorem e_below {k : Nat} (hk : 0 < k) (hk2 : k < 2 ^ 31) : p_Or_below (nI k) M = some (nI (us (lcg (M.1 22 3)) % k), wF M 22 3 (lcg (M.1 22 3))) := by
  have h3 : (wF M 22 3 (lcg (M.1 22 3))).1 22 3 = lcg (M.1 22 3) := wF_at
  have h4 : ¬ nI k ≤ 0 := nI_nle hk hk2
  have h5 : decide (¬ nI k = 0) = true := decide_eq_true (nI_ne0 hk hk2)
  unfold p_Or_below
  rw [nm_s]
  show (if nI k ≤ 0 then _ else chk _ (some (zush ((wF M 22 3 (lcg (M.1 22 3))).1 22 3) 16 - zush ((wF M 22 3 (lcg (M.1 22 3))).1 22 3) 16 / nI k * nI k, wF M 22 3 (lcg (M.1 22 3))))) = _
  have := us_lt (lcg (M.1 22 3))
  rw [if_neg h4, chk_t h5, h3, us_t, nI_rem (by omega) hk hk2]
theorem e_drawNext (W : WF n N R B V) (C : RC N R B V M) {z : Int32} (hz : M.1 22 3 = z) (h0 : 0 < pc (thN n V)) : ∃ M', p_Or_drawNext M = some M' ∧ XD M M' ∧ M'.1 22 2 = nI (pc (thN n V)) ∧ M'.1 22 3 = (ds (pc (thN n V)) z (pc (thN n V) - 1)).1 ∧ ∀ k, k < pc (thN n V) → M'.1 23 k = nI (el (thN n V) ((ds (pc (thN n V)) z (pc (thN n V) - 1)).2 k)) := by
  obtain ⟨M0, e0, x0, a2, a3, a23⟩ := e_lineUp W C
  have hT := thN_lt W
  generalize thN n V = T at *
  have hm6 := @pc_le T
  generalize hm : pc T = m at *
  have hq : ∃ q : Int32 × Mem, itr zfu (fun s => p_Or_drawNext_L11 s.1 s.2) (nI (m - 1), M0) = some q ∧ XD M q.2 ∧ q.2.1 22 2 = nI m ∧ q.2.1 22 3 = (ds m z (m - 1)).1 ∧ ∀ k, k < m → q.2.1 23 k = nI (el T ((ds m z (m - 1)).2 k)) := by
    refine itr_run (σ := Int32 × Mem) (ρ := Int32 × Mem) (fun i s => s.1 = nI (m - 1 - i) ∧ XD M s.2 ∧ s.2.1 22 2 = nI m ∧ s.2.1 22 3 = (ds m z i).1 ∧ ∀ k, k < m → s.2.1 23 k = nI (el T ((ds m z i).2 k))) (fun q => XD M q.2 ∧ q.2.1 22 2 = nI m ∧ q.2.1 22 3 = (ds m z (m - 1)).1 ∧ ∀ k, k < m → q.2.1 23 k = nI (el T ((ds m z (m - 1)).2 k))) (m - 1) (zfu_gt (by omega)) ⟨rfl, x0, a2, a3.trans hz, a23⟩ (fun i s hi hp => ?_) (fun s hp => ?_)
    · obtain ⟨x, M1⟩ := s
      obtain ⟨rfl, hx, h2, h3, hk⟩ := hp
      dsimp only at hx h2 h3 hk
      have k1 : ¬ nI (m - 1 - i) < (1 : Int32) := nI_nlt (b := 1) (by omega) (by omega)
      have k2 : inb (nI (m - 1 - i)) 6 = true := inb_nI (by omega) (by omega)
      have eb := e_below (M := M1) (k := m - 1 - i + 1) (by omega) (by omega)
      rw [h3] at eb
      have hj := Nat.mod_lt (us (lcg (ds m z i).1)) (show 0 < m - 1 - i + 1 by omega)
      have es : ds m z (i + 1) = (lcg (ds m z i).1, sw (ds m z i).2 (m - 1 - i) (us (lcg (ds m z i).1) % (m - 1 - i + 1))) := rfl
      rw [es]
      dsimp only
      generalize us (lcg (ds m z i).1) % (m - 1 - i + 1) = j at *
      generalize hc : m - 1 - i = c at *
      have k3 : inb (nI j) 6 = true := inb_nI (by omega) (by omega)
      have q1 : ∀ k, (wF M1 22 3 (lcg (ds m z i).1)).1 23 k = M1.1 23 k := fun k => by rw [wF_ne (by omega : 23 ≠ 22)]
      have em : nI c + (-1 : Int32) = nI (m - 1 - (i + 1)) := by
        rw [show m - 1 - (i + 1) = c - 1 by omega, ← nI_sub (show 1 ≤ c by omega)]
        rw [Int32.sub_eq_add_neg]
        rfl
      refine ⟨.inl (nI (m - 1 - (i + 1)), wI (wI (wF M1 22 3 (lcg (ds m z i).1)) 23 (nI c) (M1.1 23 j)) 23 (nI j) (M1.1 23 c)), ?_, rfl, hx.f.w.w, ?_, ?_, fun k hk2 => ?_⟩
      · simp only [p_Or_drawNext_L11, k1, nI_1, bnd_e eb, k2, k3, chk_true, nm_s, q1, nI_clamp (show j < 2 ^ 31 by omega), nI_clamp (show c < 2 ^ 31 by omega), em, ↓reduceIte]
      · dsimp only; rw [wI_ne (by omega : 22 ≠ 23), wI_ne (by omega : 22 ≠ 23), wF_o2 (by omega)]; exact h2
      · dsimp only; rw [wI_ne (by omega : 22 ≠ 23), wI_ne (by omega : 22 ≠ 23)]; exact wF_at
      · dsimp only
        rw [wI_at (by omega), wI_at (by omega), q1]
        unfold sw
        by_cases e1 : k = j
        · rw [if_pos e1, if_pos e1]; exact hk c (by omega)
        · rw [if_neg e1, if_neg e1]
          by_cases e2 : k = c
          · rw [if_pos e2, if_pos e2]; exact hk j (by omega)
          · rw [if_neg e2, if_neg e2]; exact hk k hk2
    · obtain ⟨x, M1⟩ := s
      obtain ⟨rfl, hx, h2, h3, hk⟩ := hp
      dsimp only at hx h2 h3 hk
      have k1 : nI (m - 1 - (m - 1)) < (1 : Int32) := by rw [Nat.sub_self]; decide
      exact ⟨(nI (m - 1 - (m - 1)), M1), by simp only [p_Or_drawNext_L11, k1, ↓reduceIte], hx, h2, h3, hk⟩
  obtain ⟨q, h1, h2, h3, h4, h5⟩ := hq
  refine ⟨q.2, ?_, h2, h3, h4, h5⟩
  unfold p_Or_drawNext
  rw [bnd_e e0, a2, show nI m - 1 = nI (m - 1) from nI_sub (show 1 ≤ m by omega), bnd_e h1]
theorem e_groupsBefore {m k0 g : Nat} {o : Nat → Nat} (hm : m < 7) (h2 : M.1 22 2 = nI m) (h23 : ∀ k, k < m → M.1 23 k = nI (o k)) (ho : ∀ k, k < m → o k < 6) (hg : g < 6) (hk : k0 < m) (h3 : o k0 = g) (h4 : ∀ j, j < k0 → ¬ o j = g) : p_Or_groupsBefore (nI g) M = some (nI (orf (fun j => 2 ^ o j) k0)) := by
  have e1 : itr zfu (fun s => p_Or_groupsBefore_L4 (nI g) M s.1 s.2) ((0 : Int32), (0 : Int32)) = some (nI (orf (fun j => 2 ^ o j) k0), nI k0) := by
    refine itr_st (fun j => (nI (orf (fun j => 2 ^ o j) j), nI j)) k0 (zfu_gt (by omega)) (fun j hj => ?_) ?_
    · have k1 : inb (nI j) 6 = true := inb_nI (by omega) (by omega)
      have k2 : ¬ nI m ≤ nI j := nI_ge (by omega) (by omega)
      have oj := ho j (by omega)
      have k3 : ¬ nI (o j) = nI g := fun e => h4 j hj ((nI_eq (by omega) (by omega)).mp e)
      simp only [p_Or_groupsBefore_L4, h2, k2, k1, chk_true, nI_clamp (show j < 2 ^ 31 by omega), h23 j (by omega), k3, shl_t _ (show o j < 7 by omega), nI_or, nI_1, orf, ↓reduceIte]
    · have k1 : inb (nI k0) 6 = true := inb_nI (by omega) (by omega)
      have k2 : ¬ nI m ≤ nI k0 := nI_ge (by omega) (by omega)
      have k3 : nI (o k0) = nI g := by rw [h3]
      simp only [p_Or_groupsBefore_L4, h2, k2, k1, chk_true, nI_clamp (show k0 < 2 ^ 31 by omega), h23 k0 (by omega), k3, ↓reduceIte]
  unfold p_Or_groupsBefore
  rw [bnd_e e1]
end PS
