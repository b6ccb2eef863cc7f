/-! rank: sizes, and how many are ahead -/
theorem cmpI {a b : Int} (h1 : -4611686018427387904 ≤ a) (h2 : a ≤ 4611686018427387904) (h3 : -4611686018427387904 ≤ b) (h4 : b ≤ 4611686018427387904) : lg_cmp (Int64.ofInt a) (Int64.ofInt b) = if b < a then 1 else if a = b then 0 else -1 := by
  unfold lg_cmp
  have e1 : (Int64.ofInt a > Int64.ofInt b) ↔ b < a := by
    show Int64.ofInt b < Int64.ofInt a ↔ _
    rw [Int64.lt_iff_toInt_lt, lI_toInt (by omega) (by omega), lI_toInt (by omega) (by omega)]
  have e2 : (Int64.ofInt a = Int64.ofInt b) ↔ a = b := lI_inj (by omega) (by omega) (by omega) (by omega)
  simp only [e1, e2]
theorem absI {a : Int} (h1 : -4611686018427387904 ≤ a) (h2 : a ≤ 4611686018427387904) : (if 0 < Int64.ofInt a then Int64.ofInt a else -Int64.ofInt a) = Int64.ofInt (a.natAbs : Int) := by
  have e1 : (0 < Int64.ofInt a) ↔ 0 < a := by
    rw [Int64.lt_iff_toInt_lt, lI_toInt (by omega) (by omega)]
    exact Iff.rfl
  by_cases h : 0 < a
  · rw [if_pos (e1.mpr h)]; congr 1; omega
  · rw [if_neg (mt e1.mp h), ← Int64.ofInt_neg]; congr 1; omega
theorem z_01 : (0 : Int32) < 1 := by decide
theorem z_00 : ¬ (0 : Int32) < 0 := by decide
theorem z_m0 : ¬ (-1 : Int32) = 0 := by decide
theorem z_0m : ¬ (0 : Int32) < -1 := by decide
theorem z_0l1 : (0 : Int32) ≤ 1 := by decide
theorem z_0l0 : (0 : Int32) ≤ 0 := by decide
theorem z_0lm : ¬ (0 : Int32) ≤ -1 := by decide
def cb (p : Nat → Bool) : Nat → Nat
  | 0 => 0
  | k + 1 => cb p k + (if p k = true then 1 else 0)
theorem cb_le {p q : Nat → Bool} : ∀ {k : Nat}, (∀ o, o < k → p o = true → q o = true) → cb p k ≤ cb q k := by
  intro k
  induction k with
  | zero => intro _; exact Nat.le_refl _
  | succ k ih =>
    intro h
    have := ih (fun o ho => h o (by omega))
    have h2 := h k (by omega)
    simp only [cb]
    by_cases e : p k = true
    · rw [if_pos e, if_pos (h2 e)]; omega
    · rw [if_neg e]; omega
theorem cb_lt {p q : Nat → Bool} : ∀ {k a : Nat}, (∀ o, o < k → p o = true → q o = true) → a < k → ¬ p a = true → q a = true → cb p k < cb q k := by
  intro k
  induction k with
  | zero => intro a _ h; omega
  | succ k ih =>
    intro a h ha h1 h2
    simp only [cb]
    by_cases e : a = k
    · rw [e] at h1 h2
      rw [if_neg h1, if_pos h2]
      have := cb_le (fun o ho => h o (Nat.lt_succ_of_lt ho))
      omega
    · have := ih (fun o ho => h o (by omega)) (show a < k by omega) h1 h2
      have h3 := h k (by omega)
      by_cases e : p k = true
      · rw [if_pos e, if_pos (h3 e)]; omega
      · rw [if_neg e]; omega
theorem cb_tail {p : Nat → Bool} {a : Nat} : ∀ {k : Nat}, a ≤ k → (∀ o, a ≤ o → o < k → ¬ p o = true) → cb p k = cb p a := by
  intro k
  induction k with
  | zero => intro h _; rw [show a = 0 by omega]
  | succ k ih =>
    intro h1 h2
    by_cases e : a = k + 1
    · rw [e]
    · simp only [cb]
      rw [if_neg (h2 k (by omega) (by omega)), ih (by omega) (fun o a b => h2 o a (by omega))]; rfl
theorem cb_bd {p : Nat → Bool} : ∀ {k : Nat}, cb p k ≤ k := by
  intro k
  induction k with
  | zero => exact Nat.le_refl _
  | succ k ih => simp only [cb]; split <;> omega
def ahB (T : Nat) (sz : Nat → Nat) (g o : Nat) : Bool := T.testBit o && (decide (sz g < sz o) || (decide (sz o = sz g) && decide (o < g)))
theorem ahB_iff {T : Nat} {sz : Nat → Nat} {g o : Nat} : ahB T sz g o = true ↔ T.testBit o = true ∧ (sz g < sz o ∨ (sz o = sz g ∧ o < g)) := by
  simp only [ahB, Bool.and_eq_true, Bool.or_eq_true, decide_eq_true_eq]
theorem ahd_lt {T : Nat} {sz : Nat → Nat} {g h : Nat} (hg : g < 6) (h1 : ahB T sz h g = true) : cb (ahB T sz g) 6 < cb (ahB T sz h) 6 := by
  rw [ahB_iff] at h1
  refine cb_lt (a := g) (fun o ho hp => ?_) hg (fun q => ?_) (ahB_iff.mpr h1)
  · rw [ahB_iff] at hp ⊢
    exact ⟨hp.1, by omega⟩
  · rw [ahB_iff] at q; omega
theorem ahd_ne {T : Nat} {sz : Nat → Nat} {g h : Nat} (hg : g < 6) (hh : h < 6) (tg : T.testBit g = true) (th : T.testBit h = true) (e : cb (ahB T sz g) 6 = cb (ahB T sz h) 6) : g = h := by
  by_cases q : g = h
  · exact q
  · exfalso
    by_cases c : ahB T sz h g = true
    · have := ahd_lt hg c; omega
    · have c2 : ahB T sz g h = true := by
        rw [ahB_iff] at c ⊢
        refine ⟨th, ?_⟩
        have c3 : ¬ (sz h < sz g ∨ (sz g = sz h ∧ g < h)) := fun x => c ⟨tg, x⟩
        omega
      have := ahd_lt hh c2; omega
def szI (n R B : Nat) (V : Vw) (g : Nat) : Nat := if (thN n V).testBit g = true then (shC n R B V g false).natAbs else 0
section PS
variable {n N R B : Nat} {V : Vw} {M : Mem}
theorem szI_bd (W : WF n N R B V) {g : Nat} (hg : g < 6) : szI n R B V g ≤ 20971520000 := by
  unfold szI
  have := shC_bd W hg (mn := false)
  split <;> omega
theorem e_measure (W : WF n N R B V) (C : RC N R B V M) : ∃ M', p_Me_measureShares M = some M' ∧ (∀ k, k ≠ 20 → M'.1 k = M.1 k) ∧ ∀ g, g < 6 → M'.2 21 g = Int64.ofInt (szI n R B V g : Int) := by
  have hb := W.2.1
  have hq : ∃ q : Int32 × Mem, itr zfu (fun s => p_Me_measureShares_L10 (nI (thN n V)) s.1 s.2) ((0 : Int32), M) = some q ∧ (∀ k, k ≠ 20 → q.2.1 k = M.1 k) ∧ ∀ g, g < 6 → q.2.2 21 g = Int64.ofInt (szI n R B V g : Int) := by
    refine itr_run (σ := Int32 × Mem) (ρ := Int32 × Mem) (fun i s => s.1 = nI i ∧ (∀ k, k ≠ 20 → s.2.1 k = M.1 k) ∧ ∀ g, g < i → s.2.2 21 g = Int64.ofInt (szI n R B V g : Int)) (fun q => (∀ k, k ≠ 20 → q.2.1 k = M.1 k) ∧ ∀ g, g < 6 → q.2.2 21 g = Int64.ofInt (szI n R B V g : Int)) 6 (zfu_gt (by omega)) ⟨rfl, fun _ _ => rfl, fun k h => by omega⟩ (fun i s hi hp => ?_) (fun s hp => ?_)
    · obtain ⟨x, M1⟩ := s
      obtain ⟨rfl, hx, hk⟩ := hp
      dsimp only at hx hk
      have C1 : RC N R B V M1 := C.of hb.2.2.2.2 (fun k hk => hx k (by omega)) (by rw [hx 24 (by omega)])
      have k1 : ¬ (6 : Int32) ≤ nI i := nI_ge (b := 6) (by omega) (by omega)
      have k2 : inb (nI i) 6 = true := inb_nI (by omega) (by omega)
      have kb := bit_t _ (thN_lt W) i hi
      by_cases e : (thN n V).testBit i = true
      · obtain ⟨M2, e2, x2⟩ := e_shareSum W C1 hi 0
        have d0 : decide ((0 : Int32) = 1) = false := by decide
        rw [d0] at e2
        have sb := shC_bd W hi (mn := false)
        refine ⟨.inl (nI (i + 1), wL M2 21 (nI i) (Int64.ofInt ((shC n R B V i false).natAbs : Int))), ?_, rfl, fun k hk => (x2.2 k hk).trans (hx k hk), fun g hg => ?_⟩
        · simp only [p_Me_measureShares_L10, k1, kb, e, bnd_e e2, k2, chk_true, nm_s, nI_1, absI (show -4611686018427387904 ≤ shC n R B V i false by omega) (by omega), ↓reduceIte]
        · show (wL M2 21 (nI i) _).2 21 g = _
          rw [wL_at (by omega)]
          by_cases q : g = i
          · rw [if_pos q, q]; unfold szI; rw [if_pos e]
          · rw [if_neg q, x2.1]; exact hk g (by omega)
      · refine ⟨.inl (nI (i + 1), wL M1 21 (nI i) 0), ?_, rfl, hx, fun g hg => ?_⟩
        · simp only [p_Me_measureShares_L10, k1, kb, e, k2, chk_true, nm_s, nI_1, ↓reduceIte, Bool.false_eq_true]
        · show (wL M1 21 (nI i) _).2 21 g = _
          rw [wL_at (by omega)]
          by_cases q : g = i
          · rw [if_pos q, q]; unfold szI; rw [if_neg e]; exact lI_0.symm
          · rw [if_neg q]; exact hk g (by omega)
    · obtain ⟨x, M1⟩ := s
      obtain ⟨rfl, hx, hk⟩ := hp
      have k1 : (6 : Int32) ≤ nI 6 := by decide
      exact ⟨(nI 6, M1), by simp only [p_Me_measureShares_L10, k1, ↓reduceIte], hx, hk⟩
  obtain ⟨q, h1, h2, h3⟩ := hq
  refine ⟨q.2, ?_, h2, h3⟩
  unfold p_Me_measureShares
  rw [bnd_e (e_there W C), bnd_e h1]
theorem e_countAhead {T g : Nat} {sz : Nat → Nat} (hT : T < 64) (hg : g < 6) (hs : ∀ o, o < 6 → M.2 21 o = Int64.ofInt (sz o : Int)) (hz : ∀ o, o < 6 → sz o ≤ 20971520000) : p_Me_countAhead (nI g) (nI T) M = some (nI (cb (ahB T sz g) 6)) := by
  have hq : itr zfu (fun s => p_Me_countAhead_L5 (nI g) (nI T) M s.1 s.2) ((0 : Int32), (0 : Int32)) = some (nI (cb (ahB T sz g) 6), nI 6) := by
    refine itr_st (fun i => (nI (cb (ahB T sz g) i), nI i)) 6 (zfu_gt (by omega)) (fun i hi => ?_) ?_
    · have k1 : ¬ (6 : Int32) ≤ nI i := nI_ge (b := 6) (by omega) (by omega)
      have k2 : inb (nI i) 6 = true := inb_nI (by omega) (by omega)
      have k3 : inb (nI g) 6 = true := inb_nI (by omega) (by omega)
      have kb := bit_t _ hT i hi
      have hc := cmpI (a := (sz i : Int)) (b := (sz g : Int)) (by omega) (by have := hz i hi; omega) (by omega) (by have := hz g hg; omega)
      have kl : nI g ≤ nI i ↔ g ≤ i := nI_leI (by omega) (by omega)
      have f1 : ahB T sz g i = true → nI (cb (ahB T sz g) (i + 1)) = nI (cb (ahB T sz g) i + 1) := fun h => by rw [cb, if_pos h]
      have f0 : ¬ ahB T sz g i = true → nI (cb (ahB T sz g) (i + 1)) = nI (cb (ahB T sz g) i) := fun h => by rw [cb, if_neg h]; rfl
      simp only [p_Me_countAhead_L5, k1, k2, k3, chk_true, nI_clamp (show i < 2 ^ 31 by omega), nI_clamp (show g < 2 ^ 31 by omega), hs i hi, hs g hg, hc, kb, kl, nI_1, ↓reduceIte]
      by_cases c1 : (sz g : Int) < (sz i : Int)
      · rw [if_pos c1, if_neg one_ne, if_pos z_01]
        by_cases e : T.testBit i = true
        · rw [if_pos e, f1 (ahB_iff.mpr ⟨e, Or.inl (by omega)⟩)]
        · rw [if_neg e, f0 (fun q => e (ahB_iff.mp q).1)]
      · rw [if_neg c1]
        by_cases c2 : (sz i : Int) = (sz g : Int)
        · rw [if_pos c2, if_pos rfl]
          by_cases c3 : g ≤ i
          · rw [if_pos c3, if_neg z_00, f0 (fun q => by have := (ahB_iff.mp q).2; omega)]
            split <;> rfl
          · rw [if_neg c3, if_neg z_00]
            by_cases e : T.testBit i = true
            · rw [if_pos e, f1 (ahB_iff.mpr ⟨e, Or.inr (by omega)⟩)]
            · rw [if_neg e, f0 (fun q => e (ahB_iff.mp q).1)]
        · rw [if_neg c2, if_neg z_m0, if_neg z_0m, f0 (fun q => by have := (ahB_iff.mp q).2; omega)]
          split <;> rfl
    · have k1 : (6 : Int32) ≤ nI 6 := by decide
      simp only [p_Me_countAhead_L5, k1, ↓reduceIte]
  unfold p_Me_countAhead
  rw [bnd_e hq]
end PS
