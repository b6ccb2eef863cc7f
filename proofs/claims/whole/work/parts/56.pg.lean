def setr (V : Vw) (r c : Nat) (v : Int32) : Nat → Int32 := fun q => if q = c then v else itm V r q
section PS
variable {n N R B : Nat} {V : Vw} {M : Mem}
theorem setr_bd (W : WF n N R B V) {r c : Nat} {v : Int32} (hr : r ≤ 5) (hv : -100 ≤ v.toInt ∧ v.toInt ≤ 100) : ∀ q, q < 6 → -100 ≤ (setr V r c v q).toInt ∧ (setr V r c v q).toInt ≤ 100 := fun q hq => by
  unfold setr
  split
  · exact hv
  · exact itm_bd W hr q hq
theorem e_sumWith (W : WF n N R B V) (C : RC N R B V M) {r c : Nat} {v : Int32} (hr : r < B) (hc : c < 6) (hv : -100 ≤ v.toInt ∧ v.toInt ≤ 100) : ∃ M', p_Me_sumWith (12 + r) (nI c) v M = some (Int64.ofInt (ans R V (setr V (r + 1) c v)), M') ∧ X20 M M' := by
  have hb := W.2.1
  have hq : ∃ q : Int32 × Mem, itr zfu (fun s => p_Me_sumWith_L3 (12 + r) (nI c) v s.1 s.2) ((0 : Int32), M) = some q ∧ X20 M q.2 ∧ ∀ k, k < 6 → q.2.1 20 k = setr V (r + 1) c v k := by
    refine itr_run (σ := Int32 × Mem) (ρ := Int32 × Mem) (fun i s => s.1 = nI i ∧ X20 M s.2 ∧ ∀ k, k < i → s.2.1 20 k = setr V (r + 1) c v k) (fun q => X20 M q.2 ∧ ∀ k, k < 6 → q.2.1 20 k = setr V (r + 1) c v k) 6 (zfu_gt (by omega)) ⟨rfl, X20.rf, fun k h => by omega⟩ (fun i s hi hp => ?_) (fun s hp => ?_)
    · obtain ⟨x, M1⟩ := s
      obtain ⟨rfl, hx, hk⟩ := hp
      dsimp only at hx hk
      have C1 := C.x hb.2.2.2.2 hx
      have k1 : ¬ (6 : Int32) ≤ nI i := nI_ge (b := 6) (by omega) (by omega)
      have k2 : inb (nI i) 6 = true := inb_nI (by omega) (by omega)
      have al := al12 (r := r) (by omega)
      have ee : nI i = nI c ↔ i = c := nI_eq (by omega) (by omega)
      by_cases e : i = c
      · refine ⟨.inl (nI (i + 1), wI M1 20 (nI i) v), ?_, rfl, hx.w, fun k hk2 => ?_⟩
        · have e' := ee.mpr e
          simp only [p_Me_sumWith_L3, k1, ee, e, ↓reduceIte]
          rw [← e]
          simp only [k1, k2, chk_true, nm_s, nI_1, ↓reduceIte]
        · rw [wI_at (by omega)]
          by_cases q : k = i
          · rw [if_pos q, q]; unfold setr; rw [if_pos e]
          · rw [if_neg q]; exact hk k (by omega)
      · refine ⟨.inl (nI (i + 1), wI M1 20 (nI i) (itm V (r + 1) i)), ?_, rfl, hx.w, fun k hk2 => ?_⟩
        · simp only [p_Me_sumWith_L3, k1, ee, e, al, k2, chk_true, nm_s, nI_clamp (show i < 2 ^ 31 by omega), rowC C1 hr i hi, nI_1, ↓reduceIte]
        · rw [wI_at (by omega)]
          by_cases q : k = i
          · rw [if_pos q, q]; unfold setr; rw [if_neg e]
          · rw [if_neg q]; exact hk k (by omega)
    · obtain ⟨x, M1⟩ := s
      obtain ⟨rfl, hx, hk⟩ := hp
      exact ⟨(nI 6, M1), by simp only [p_Me_sumWith_L3, show (6 : Int32) ≤ nI 6 by decide, ↓reduceIte], hx, hk⟩
  obtain ⟨q, h1, h2, h3⟩ := hq
  have bd := ans_bound (row := setr V (r + 1) c v) W (setr_bd W (by omega) hv)
  refine ⟨q.2, ?_, h2⟩
  unfold p_Me_sumWith
  rw [bnd_e h1, bnd_e (e_sumFor (row := setr V (r + 1) c v) W (C.x hb.2.2.2.2 h2) h3 rfl), toL_of (by omega) (by omega)]
theorem e_replaced (W : WF n N R B V) (C : RC N R B V M) {c : Nat} {v : Int32} (hc : c < 6) (hv : -100 ≤ v.toInt ∧ v.toInt ≤ 100) : ∃ M', p_Me_replacedSum (nI c) v M = some (Int64.ofInt (sm (fun r => ans R V (setr V (r + 1) c v)) B), M') ∧ X20 M M' := by
  have hb := W.2.1
  have hq : ∃ q : Int64 × Int32 × Mem, itr zfu (fun s => p_Me_replacedSum_L5 (nI c) v s.1 s.2.1 s.2.2) ((0 : Int64), (0 : Int32), M) = some q ∧ q.1 = Int64.ofInt (sm (fun r => ans R V (setr V (r + 1) c v)) B) ∧ X20 M q.2.2 := by
    refine itr_run (σ := Int64 × Int32 × Mem) (ρ := Int64 × Int32 × Mem) (fun i s => s.1 = Int64.ofInt (sm (fun r => ans R V (setr V (r + 1) c v)) i) ∧ s.2.1 = nI i ∧ X20 M s.2.2) (fun q => q.1 = Int64.ofInt (sm (fun r => ans R V (setr V (r + 1) c v)) B) ∧ X20 M q.2.2) B (zfu_gt (by omega)) ⟨rfl, rfl, X20.rf⟩ (fun i s hi hp => ?_) (fun s hp => ?_)
    · obtain ⟨x, y, M1⟩ := s
      obtain ⟨rfl, rfl, hx⟩ := hp
      dsimp only at hx
      have C1 := C.x hb.2.2.2.2 hx
      have k1 : ¬ M1.1 9 2 ≤ nI i := by rw [C1.1.2.2.2.2.2, W.1.2.2.2]; exact nI_ge (by omega) (by omega)
      obtain ⟨M2, e2, x2⟩ := e_sumWith W C1 hi hc hv
      refine ⟨.inl (Int64.ofInt (sm (fun r => ans R V (setr V (r + 1) c v)) (i + 1)), nI (i + 1), M2), ?_, rfl, rfl, hx.tr x2⟩
      simp only [p_Me_replacedSum_L5, p_Rw_count, bnd_s, k1, e_at (show i < 5 by omega), e2, nI_1, sm, Int64.ofInt_add, ↓reduceIte]
    · obtain ⟨x, y, M1⟩ := s
      obtain ⟨rfl, rfl, hx⟩ := hp
      dsimp only at hx
      have C1 := C.x hb.2.2.2.2 hx
      have k1 : M1.1 9 2 ≤ nI B := by rw [C1.1.2.2.2.2.2, W.1.2.2.2]; exact nI_le (by omega) (by omega)
      exact ⟨(_, nI B, M1), by simp only [p_Me_replacedSum_L5, p_Rw_count, bnd_s, k1, ↓reduceIte]; rfl, rfl, hx⟩
  obtain ⟨q, h1, h2, h3⟩ := hq
  refine ⟨q.2.2, ?_, h3⟩
  unfold p_Me_replacedSum
  rw [bnd_e h1, h2]
def chS (R B : Nat) (V : Vw) (c : Nat) : Int := sm (fun f => sm (fun s => (ans R V (setr V (f + 1) c (itm V (s + 1) c)) - ans R V (itm V (f + 1))) * (ans R V (setr V (f + 1) c (itm V (s + 1) c)) - ans R V (itm V (f + 1)))) B) B
theorem e_change (W : WF n N R B V) (C : RC N R B V M) {c : Nat} (hc : c < 6) : ∃ M', p_Me_changeSum (nI c) M = some (Int64.ofInt (chS R B V c), M') ∧ X20 M M' := by
  have hb := W.2.1
  have inner : ∀ (M : Mem) (f : Nat) (a : Int), RC N R B V M → f < B → ∃ q : Int64 × Int32 × Mem, itr zfu (fun s => p_Me_changeSum_L43 (nI c) (12 + f) (Int32.ofInt (ans R V (itm V (f + 1)))) s.1 s.2.1 s.2.2) (Int64.ofInt a, (0 : Int32), M) = some q ∧ q.1 = Int64.ofInt (a + sm (fun s => (ans R V (setr V (f + 1) c (itm V (s + 1) c)) - ans R V (itm V (f + 1))) * (ans R V (setr V (f + 1) c (itm V (s + 1) c)) - ans R V (itm V (f + 1)))) B) ∧ X20 M q.2.2 := fun M f a C hf => by
    have bd := ans_bound (row := itm V (f + 1)) W (itm_bd W (by omega))
    refine itr_run (σ := Int64 × Int32 × Mem) (ρ := Int64 × Int32 × Mem) (fun i s => s.1 = Int64.ofInt (a + sm (fun s => (ans R V (setr V (f + 1) c (itm V (s + 1) c)) - ans R V (itm V (f + 1))) * (ans R V (setr V (f + 1) c (itm V (s + 1) c)) - ans R V (itm V (f + 1)))) i) ∧ s.2.1 = nI i ∧ X20 M s.2.2) (fun q => q.1 = Int64.ofInt (a + sm (fun s => (ans R V (setr V (f + 1) c (itm V (s + 1) c)) - ans R V (itm V (f + 1))) * (ans R V (setr V (f + 1) c (itm V (s + 1) c)) - ans R V (itm V (f + 1)))) B) ∧ X20 M q.2.2) B (zfu_gt (by omega)) ⟨by simp [sm], rfl, X20.rf⟩ (fun i s hi hp => ?_) (fun s hp => ?_)
    · obtain ⟨x, y, M1⟩ := s
      obtain ⟨rfl, rfl, hx⟩ := hp
      dsimp only at hx
      have C1 := C.x hb.2.2.2.2 hx
      have k1 : ¬ M1.1 9 2 ≤ nI i := by rw [C1.1.2.2.2.2.2, W.1.2.2.2]; exact nI_ge (by omega) (by omega)
      have k2 : inb (nI c) (alenC (12 + i)) = true := by rw [al12 (by omega)]; exact inb_nI hc (by omega)
      obtain ⟨M2, e2, x2⟩ := e_sumWith W C1 (r := f) (v := itm V (i + 1) c) hf hc (itm_bd W (by omega) c hc)
      refine ⟨.inl (Int64.ofInt (a + sm (fun s => (ans R V (setr V (f + 1) c (itm V (s + 1) c)) - ans R V (itm V (f + 1))) * (ans R V (setr V (f + 1) c (itm V (s + 1) c)) - ans R V (itm V (f + 1)))) (i + 1)), nI (i + 1), M2), ?_, rfl, rfl, hx.tr x2⟩
      simp only [p_Me_changeSum_L43, p_Rw_count, bnd_s, k1, e_at (show i < 5 by omega), k2, chk_true, nI_clamp (show c < 2 ^ 31 by omega), rowC C1 hi c hc, e2, toL_of (show -2147483648 ≤ ans R V (itm V (f + 1)) by omega) (by omega), nI_1, sm, ← Int64.ofInt_sub, ← Int64.ofInt_mul, ← Int64.ofInt_add, Int.add_assoc, ↓reduceIte]
    · obtain ⟨x, y, M1⟩ := s
      obtain ⟨rfl, rfl, hx⟩ := hp
      dsimp only at hx
      have C1 := C.x hb.2.2.2.2 hx
      have k1 : M1.1 9 2 ≤ nI B := by rw [C1.1.2.2.2.2.2, W.1.2.2.2]; exact nI_le (by omega) (by omega)
      exact ⟨(_, nI B, M1), by simp only [p_Me_changeSum_L43, p_Rw_count, bnd_s, k1, ↓reduceIte]; rfl, rfl, hx⟩
  have hq : ∃ q : Int64 × Int32 × Mem, itr zfu (fun s => p_Me_changeSum_L5 (nI c) s.1 s.2.1 s.2.2) ((0 : Int64), (0 : Int32), M) = some q ∧ q.1 = Int64.ofInt (chS R B V c) ∧ X20 M q.2.2 := by
    refine itr_run (σ := Int64 × Int32 × Mem) (ρ := Int64 × Int32 × Mem) (fun i s => s.1 = Int64.ofInt (sm (fun f => sm (fun s => (ans R V (setr V (f + 1) c (itm V (s + 1) c)) - ans R V (itm V (f + 1))) * (ans R V (setr V (f + 1) c (itm V (s + 1) c)) - ans R V (itm V (f + 1)))) B) i) ∧ s.2.1 = nI i ∧ X20 M s.2.2) (fun q => q.1 = Int64.ofInt (chS R B V c) ∧ X20 M q.2.2) B (zfu_gt (by omega)) ⟨rfl, rfl, X20.rf⟩ (fun i s hi hp => ?_) (fun s hp => ?_)
    · obtain ⟨x, y, M1⟩ := s
      obtain ⟨rfl, rfl, hx⟩ := hp
      dsimp only at hx
      have C1 := C.x hb.2.2.2.2 hx
      have k1 : ¬ M1.1 9 2 ≤ nI i := by rw [C1.1.2.2.2.2.2, W.1.2.2.2]; exact nI_ge (by omega) (by omega)
      have e1 := e_sumFor (a1 := 12 + i) (row := itm V (i + 1)) W C1 (rowC C1 hi) (al12 (by omega))
      obtain ⟨q, e2, q1, x2⟩ := inner M1 i (sm (fun f => sm (fun s => (ans R V (setr V (f + 1) c (itm V (s + 1) c)) - ans R V (itm V (f + 1))) * (ans R V (setr V (f + 1) c (itm V (s + 1) c)) - ans R V (itm V (f + 1)))) B) i) C1 hi
      refine ⟨.inl (q.1, nI (i + 1), q.2.2), ?_, q1, rfl, hx.tr x2⟩
      simp only [p_Me_changeSum_L5, p_Rw_count, bnd_s, k1, e_at (show i < 5 by omega), e1, bnd_e e2, nI_1, ↓reduceIte]
    · obtain ⟨x, y, M1⟩ := s
      obtain ⟨rfl, rfl, hx⟩ := hp
      dsimp only at hx
      have C1 := C.x hb.2.2.2.2 hx
      have k1 : M1.1 9 2 ≤ nI B := by rw [C1.1.2.2.2.2.2, W.1.2.2.2]; exact nI_le (by omega) (by omega)
      exact ⟨(_, nI B, M1), by simp only [p_Me_changeSum_L5, p_Rw_count, bnd_s, k1, ↓reduceIte]; rfl, rfl, hx⟩
  obtain ⟨q, h1, h2, h3⟩ := hq
  refine ⟨q.2.2, ?_, h3⟩
  unfold p_Me_changeSum
  rw [bnd_e h1, h2]
end PS
