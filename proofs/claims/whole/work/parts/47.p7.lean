theorem pc_sub : ∀ c, c < 64 → ∀ o, o < 64 → c &&& o = c → pc c ≤ pc o := by decide +kernel
theorem and_le {c o : Nat} (h : c &&& o = c) : c ≤ o := by rw [← h]; exact Nat.and_le_right
def brT (R B : Nat) (V : Vw) (a b : Nat) : Int := tot R B V (a ||| b) - tot R B V a
def wys (o P : Nat) : Nat := fct (pc P) * fct (pc o - pc P)
def shC (n R B : Nat) (V : Vw) (g : Nat) (mn : Bool) : Int := sm (fun P => if P &&& oth (thN n V) g = P then (if mn then 1 else (wys (oth (thN n V) g) P : Int)) * brT R B V (colN n V P) (colN n V (2 ^ g)) else 0) 64
def tgC (n R B : Nat) (V : Vw) (g h : Nat) : Int := sm (fun P => if P &&& oth (oth (thN n V) g) h = P then (wys (oth (oth (thN n V) g) h) P : Int) * (brT R B V (colN n V P ||| colN n V (2 ^ h)) (colN n V (2 ^ g)) - brT R B V (colN n V P) (colN n V (2 ^ g))) else 0) 64
section PS
variable {n N R B : Nat} {V : Vw} {M : Mem}
theorem e_shareSum (W : WF n N R B V) (C : RC N R B V M) {g : Nat} (hg : g < 6) (a2 : Int32) : ∃ M', p_Me_shareSum (nI g) a2 M = some (Int64.ofInt (shC n R B V g (decide (a2 = 1))), M') ∧ X20 M M' := by
  have hb := W.2.1
  have hT := thN_lt W
  obtain ⟨eo, ho⟩ := oth_t _ hT g hg
  generalize hO : oth (thN n V) g = o at eo ho
  have hq : ∃ q : Int64 × Int32 × Mem, itr zfu (fun s => p_Me_shareSum_L38 (nI g) a2 (nI (thN n V)) (nI (colN n V (2 ^ g))) (nI (pc o)) s.1 s.2.1 s.2.2) ((0 : Int64), (0 : Int32), M) = some q ∧ q.1 = Int64.ofInt (sm (fun P => if P &&& o = P then (if decide (a2 = 1) = true then 1 else (wys o P : Int)) * brT R B V (colN n V P) (colN n V (2 ^ g)) else 0) (o + 1)) ∧ X20 M q.2.2 := by
    refine itr_run (σ := Int64 × Int32 × Mem) (ρ := Int64 × Int32 × Mem) (fun i s => s.1 = Int64.ofInt (sm (fun P => if P &&& o = P then (if decide (a2 = 1) = true then 1 else (wys o P : Int)) * brT R B V (colN n V P) (colN n V (2 ^ g)) else 0) i) ∧ s.2.1 = nI i ∧ X20 M s.2.2) (fun q => q.1 = Int64.ofInt (sm (fun P => if P &&& o = P then (if decide (a2 = 1) = true then 1 else (wys o P : Int)) * brT R B V (colN n V P) (colN n V (2 ^ g)) else 0) (o + 1)) ∧ X20 M q.2.2) (o + 1) (zfu_gt (by omega)) ⟨rfl, rfl, X20.rf⟩ (fun i s hi hp => ?_) (fun s hp => ?_)
    · obtain ⟨x, y, M1⟩ := s
      obtain ⟨rfl, rfl, hx⟩ := hp
      dsimp only at hx
      have C1 := C.x hb.2.2.2.2 hx
      have k1 : ¬ nI o < nI i := nI_nlt (by omega) (by omega)
      have hi6 : i < 64 := by omega
      by_cases cb : i &&& o = i
      · have cb' := (sub_t i hi6 o ho).mpr cb
        obtain ⟨M2, e2, x2⟩ := e_brought W C1 (a := colN n V i) (b := colN n V (2 ^ g)) (colN_lt W) (Nat.or_lt_two_pow (n := 6) (colN_lt W) (colN_lt W))
        by_cases ca : a2 = 1
        · refine ⟨.inl (Int64.ofInt (sm (fun P => if P &&& o = P then (if decide (a2 = 1) = true then 1 else (wys o P : Int)) * brT R B V (colN n V P) (colN n V (2 ^ g)) else 0) (i + 1)), nI (i + 1), M2), ?_, rfl, rfl, hx.tr x2⟩
          simp only [p_Me_shareSum_L38, eo, k1, cb', ca, e_columnsOf W C1 hi6, e2, bnd_s, nI_1, sm, cb, Int64.one_mul, decide_true, Int.one_mul, Int64.ofInt_add, brT, ↓reduceIte]
        · refine ⟨.inl (Int64.ofInt (sm (fun P => if P &&& o = P then (if decide (a2 = 1) = true then 1 else (wys o P : Int)) * brT R B V (colN n V P) (colN n V (2 ^ g)) else 0) (i + 1)), nI (i + 1), M2), ?_, rfl, rfl, hx.tr x2⟩
          have e3 := e_around (M := M1) hi6 (show pc o < 7 by have := @pc_le o; omega) (pc_sub i hi6 o ho cb)
          simp only [p_Me_shareSum_L38, eo, k1, cb', ca, e3, e_columnsOf W C1 hi6, e2, bnd_s, nI_1, sm, cb, decide_false, Bool.false_eq_true, Int64.ofInt_add, Int64.ofInt_mul, brT, wys, ↓reduceIte]
      · have cb' := mt (sub_t i hi6 o ho).mp cb
        refine ⟨.inl (Int64.ofInt (sm (fun P => if P &&& o = P then (if decide (a2 = 1) = true then 1 else (wys o P : Int)) * brT R B V (colN n V P) (colN n V (2 ^ g)) else 0) (i + 1)), nI (i + 1), M1), ?_, rfl, rfl, hx⟩
        simp only [p_Me_shareSum_L38, eo, k1, cb', nI_1, sm, cb, Int.add_zero, ↓reduceIte]
    · obtain ⟨x, y, M1⟩ := s
      obtain ⟨rfl, rfl, hx⟩ := hp
      dsimp only at hx
      have k1 : nI o < nI (o + 1) := nI_lt (by omega) (by omega)
      exact ⟨(_, nI (o + 1), M1), by simp only [p_Me_shareSum_L38, eo, k1, ↓reduceIte]; rfl, rfl, hx⟩
  obtain ⟨q, h1, h2, h3⟩ := hq
  refine ⟨q.2.2, ?_, h3⟩
  have h4 : shC n R B V g (decide (a2 = 1)) = sm (fun P => if P &&& o = P then (if decide (a2 = 1) = true then 1 else (wys o P : Int)) * brT R B V (colN n V P) (colN n V (2 ^ g)) else 0) (o + 1) := by
    unfold shC
    rw [hO]
    exact sm_tail (by omega) (fun i h1 h2 => if_neg (fun h => by have := and_le h; omega))
  unfold p_Me_shareSum
  rw [bnd_e (e_there W C), shl_t g (by omega), bnd_e (e_columnsOf W C (pw_lt hg)), ← shl_t g (by omega), eo, bnd_e (e_bitCount ho), bnd_e h1, h2, h4]
theorem e_togetherSum (W : WF n N R B V) (C : RC N R B V M) {g h : Nat} (hg : g < 6) (hh : h < 6) : ∃ M', p_Me_togetherSum (nI g) (nI h) M = some (Int64.ofInt (tgC n R B V g h), M') ∧ X20 M M' := by
  have hb := W.2.1
  have hT := thN_lt W
  obtain ⟨eo1, ho1⟩ := oth_t _ hT g hg
  obtain ⟨eo2, ho⟩ := oth_t _ ho1 h hh
  have eo : (nI (thN n V) &&& ((1 : Int32) <<< (nI g &&& 31) ^^^ (-1 : Int32))) &&& ((1 : Int32) <<< (nI h &&& 31) ^^^ (-1 : Int32)) = nI (oth (oth (thN n V) g) h) := by rw [eo1, eo2]
  generalize hO : oth (oth (thN n V) g) h = o at eo ho
  have hq : ∃ q : Int64 × Int32 × Mem, itr zfu (fun s => p_Me_togetherSum_L56 (nI g) (nI h) (nI (thN n V)) (nI (colN n V (2 ^ g))) (nI (colN n V (2 ^ h))) (nI (pc o)) s.1 s.2.1 s.2.2) ((0 : Int64), (0 : Int32), M) = some q ∧ q.1 = Int64.ofInt (sm (fun P => if P &&& o = P then (wys o P : Int) * (brT R B V (colN n V P ||| colN n V (2 ^ h)) (colN n V (2 ^ g)) - brT R B V (colN n V P) (colN n V (2 ^ g))) else 0) (o + 1)) ∧ X20 M q.2.2 := by
    refine itr_run (σ := Int64 × Int32 × Mem) (ρ := Int64 × Int32 × Mem) (fun i s => s.1 = Int64.ofInt (sm (fun P => if P &&& o = P then (wys o P : Int) * (brT R B V (colN n V P ||| colN n V (2 ^ h)) (colN n V (2 ^ g)) - brT R B V (colN n V P) (colN n V (2 ^ g))) else 0) i) ∧ s.2.1 = nI i ∧ X20 M s.2.2) (fun q => q.1 = Int64.ofInt (sm (fun P => if P &&& o = P then (wys o P : Int) * (brT R B V (colN n V P ||| colN n V (2 ^ h)) (colN n V (2 ^ g)) - brT R B V (colN n V P) (colN n V (2 ^ g))) else 0) (o + 1)) ∧ X20 M q.2.2) (o + 1) (zfu_gt (by omega)) ⟨rfl, rfl, X20.rf⟩ (fun i s hi hp => ?_) (fun s hp => ?_)
    · obtain ⟨x, y, M1⟩ := s
      obtain ⟨rfl, rfl, hx⟩ := hp
      dsimp only at hx
      have C1 := C.x hb.2.2.2.2 hx
      have k1 : ¬ nI o < nI i := nI_nlt (by omega) (by omega)
      have hi6 : i < 64 := by omega
      by_cases cb : i &&& o = i
      · have cb' := (sub_t i hi6 o ho).mpr cb
        have l1 := Nat.or_lt_two_pow (n := 6) (colN_lt W (P := i)) (colN_lt W (P := 2 ^ h))
        obtain ⟨M2, e2, x2⟩ := e_brought W C1 (a := colN n V i ||| colN n V (2 ^ h)) (b := colN n V (2 ^ g)) l1 (Nat.or_lt_two_pow (n := 6) l1 (colN_lt W))
        have C2 := C1.x hb.2.2.2.2 x2
        obtain ⟨M3, e3, x3⟩ := e_brought W C2 (a := colN n V i) (b := colN n V (2 ^ g)) (colN_lt W) (Nat.or_lt_two_pow (n := 6) (colN_lt W) (colN_lt W))
        have e4 := e_around (M := M3) hi6 (show pc o < 7 by have := @pc_le o; omega) (pc_sub i hi6 o ho cb)
        refine ⟨.inl (Int64.ofInt (sm (fun P => if P &&& o = P then (wys o P : Int) * (brT R B V (colN n V P ||| colN n V (2 ^ h)) (colN n V (2 ^ g)) - brT R B V (colN n V P) (colN n V (2 ^ g))) else 0) (i + 1)), nI (i + 1), M3), ?_, rfl, rfl, (hx.tr x2).tr x3⟩
        simp only [p_Me_togetherSum_L56, eo, k1, cb', e_columnsOf W C1 hi6, nI_or, e2, e3, e4, bnd_s, nI_1, sm, cb, Int64.ofInt_add, Int64.ofInt_mul, Int64.ofInt_sub, brT, wys, ↓reduceIte]
      · have cb' := mt (sub_t i hi6 o ho).mp cb
        refine ⟨.inl (Int64.ofInt (sm (fun P => if P &&& o = P then (wys o P : Int) * (brT R B V (colN n V P ||| colN n V (2 ^ h)) (colN n V (2 ^ g)) - brT R B V (colN n V P) (colN n V (2 ^ g))) else 0) (i + 1)), nI (i + 1), M1), ?_, rfl, rfl, hx⟩
        simp only [p_Me_togetherSum_L56, eo, k1, cb', nI_1, sm, cb, Int.add_zero, ↓reduceIte]
    · obtain ⟨x, y, M1⟩ := s
      obtain ⟨rfl, rfl, hx⟩ := hp
      dsimp only at hx
      have k1 : nI o < nI (o + 1) := nI_lt (by omega) (by omega)
      exact ⟨(_, nI (o + 1), M1), by simp only [p_Me_togetherSum_L56, eo, k1, ↓reduceIte]; rfl, rfl, hx⟩
  obtain ⟨q, h1, h2, h3⟩ := hq
  refine ⟨q.2.2, ?_, h3⟩
  have h4 : tgC n R B V g h = sm (fun P => if P &&& o = P then (wys o P : Int) * (brT R B V (colN n V P ||| colN n V (2 ^ h)) (colN n V (2 ^ g)) - brT R B V (colN n V P) (colN n V (2 ^ g))) else 0) (o + 1) := by
    unfold tgC
    rw [hO]
    exact sm_tail (by omega) (fun i h1 h2 => if_neg (fun h => by have := and_le h; omega))
  have c1 : p_Gr_columnsOf ((1 : Int32) <<< (nI g &&& 31)) M = some (nI (colN n V (2 ^ g))) := by rw [shl_t g (by omega)]; exact e_columnsOf W C (pw_lt hg)
  have c2 : p_Gr_columnsOf ((1 : Int32) <<< (nI h &&& 31)) M = some (nI (colN n V (2 ^ h))) := by rw [shl_t h (by omega)]; exact e_columnsOf W C (pw_lt hh)
  unfold p_Me_togetherSum
  rw [bnd_e (e_there W C), bnd_e c1, bnd_e c2, eo, bnd_e (e_bitCount ho), bnd_e h1, h2, h4]
theorem e_shareWays (W : WF n N R B V) (C : RC N R B V M) (a2 : Int32) (h0 : 0 < pc (thN n V)) : p_Me_shareWays a2 M = some (Int64.ofInt ((if a2 = 1 then 2 ^ (pc (thN n V) - 1) else fct (pc (thN n V)) : Nat) : Int)) := by
  have hle := @pc_le (thN n V)
  generalize hm : pc (thN n V) = m at h0 hle
  unfold p_Me_shareWays
  rw [bnd_e (e_count W C), hm]
  by_cases ca : a2 = 1
  · rw [if_pos ca, if_pos ca, show (1 : Int32) = nI 1 from rfl, nI_sub h0]
    have : ∀ k, k < 7 → zlsh (1 : Int64) (nI k) = Int64.ofInt ((2 ^ k : Nat) : Int) := by decide +kernel
    rw [this (m - 1) (by omega)]
  · rw [if_neg ca, if_neg ca, bnd_e (e_fct (by omega))]
theorem e_togetherWays (W : WF n N R B V) (C : RC N R B V M) (h0 : 0 < pc (thN n V)) : p_Me_togetherWays M = some (Int64.ofInt ((fct (pc (thN n V) - 1) : Nat) : Int)) := by
  have hle := @pc_le (thN n V)
  generalize hm : pc (thN n V) = m at h0 hle
  unfold p_Me_togetherWays
  rw [bnd_e (e_count W C), hm, show (1 : Int32) = nI 1 from rfl, nI_sub h0, bnd_e (e_fct (by omega))]
end PS
