section PS
variable {n N R B : Nat} {V : Vw} {M : Mem}
def fnd (T : Nat) (sz : Nat → Nat) (p : Nat) (r : Int32) : Prop := (r = -1 ∧ ∀ g, g < 6 → T.testBit g = true → ¬ cb (ahB T sz g) 6 = p) ∨ ∃ g, g < 6 ∧ T.testBit g = true ∧ cb (ahB T sz g) 6 = p ∧ r = nI g
theorem fnd_u {T p : Nat} {sz : Nat → Nat} {r r' : Int32} (h : fnd T sz p r) (h' : fnd T sz p r') : r = r' := by
  rcases h with ⟨rfl, h⟩ | ⟨g, g1, g2, g3, rfl⟩
  · rcases h' with ⟨rfl, _⟩ | ⟨g, g1, g2, g3, rfl⟩
    · rfl
    · exact absurd g3 (h g g1 g2)
  · rcases h' with ⟨rfl, h⟩ | ⟨k, k1, k2, k3, rfl⟩
    · exact absurd g3 (h g g1 g2)
    · rw [ahd_ne g1 k1 g2 k2 (g3.trans k3.symm)]
theorem e_groupAt (W : WF n N R B V) (C : RC N R B V M) {p : Nat} {sz : Nat → Nat} (hp : p < 2 ^ 31) (hs : ∀ o, o < 6 → M.2 21 o = Int64.ofInt (sz o : Int)) (hz : ∀ o, o < 6 → sz o ≤ 20971520000) : ∃ r, p_Me_groupAtPlace (nI p) M = some r ∧ fnd (thN n V) sz p r := by
  have hT := thN_lt W
  have et := e_there W C
  generalize thN n V = T at hT et
  have hq : ∃ q : Int32 ⊕ Int32, itr zfu (fun s => p_Me_groupAtPlace_L10 (nI p) M (nI T) s) ((0 : Int32)) = some q ∧ (match q with | .inr r => ∃ g, g < 6 ∧ T.testBit g = true ∧ cb (ahB T sz g) 6 = p ∧ r = nI g | .inl _ => ∀ g, g < 6 → T.testBit g = true → ¬ cb (ahB T sz g) 6 = p) := by
    refine itr_run (σ := Int32) (ρ := Int32 ⊕ Int32) (fun i s => s = nI i ∧ ∀ g, g < i → T.testBit g = true → ¬ cb (ahB T sz g) 6 = p) (fun q => match q with | .inr r => ∃ g, g < 6 ∧ T.testBit g = true ∧ cb (ahB T sz g) 6 = p ∧ r = nI g | .inl _ => ∀ g, g < 6 → T.testBit g = true → ¬ cb (ahB T sz g) 6 = p) 6 (zfu_gt (by omega)) ⟨rfl, fun g hg => by omega⟩ (fun i s hi hp => ?_) (fun s hp => ?_)
    · obtain ⟨rfl, hk⟩ := hp
      have k1 : ¬ (6 : Int32) ≤ nI i := nI_ge (b := 6) (by omega) (by omega)
      have kb := bit_t _ hT i hi
      by_cases e : T.testBit i = true
      · have ec := e_countAhead (M := M) hT hi hs hz
        have ee : nI (cb (ahB T sz i) 6) = nI p ↔ cb (ahB T sz i) 6 = p := nI_eq (by have := @cb_bd (ahB T sz i) 6; omega) (by omega)
        by_cases q : cb (ahB T sz i) 6 = p
        · refine ⟨.inr (.inr (nI i)), ?_, i, hi, e, q, rfl⟩
          simp only [p_Me_groupAtPlace_L10, k1, kb, e, bnd_e ec, ee, ↓reduceIte]
          rw [if_pos q]
        · refine ⟨.inl (nI (i + 1)), ?_, rfl, fun g hg tg => ?_⟩
          · simp only [p_Me_groupAtPlace_L10, k1, kb, e, bnd_e ec, ee, q, nI_1, ↓reduceIte]
          · by_cases h : g = i
            · rw [h]; exact q
            · exact hk g (by omega) tg
      · refine ⟨.inl (nI (i + 1)), ?_, rfl, fun g hg tg => ?_⟩
        · simp only [p_Me_groupAtPlace_L10, k1, kb, e, nI_1, ↓reduceIte, Bool.false_eq_true]
        · by_cases h : g = i
          · rw [h] at tg; exact absurd tg e
          · exact hk g (by omega) tg
    · obtain ⟨rfl, hk⟩ := hp
      have k1 : (6 : Int32) ≤ nI 6 := by decide
      exact ⟨.inl (nI 6), by simp only [p_Me_groupAtPlace_L10, k1, ↓reduceIte], hk⟩
  obtain ⟨q, h1, h2⟩ := hq
  unfold p_Me_groupAtPlace
  rw [bnd_e et, bnd_e h1]
  cases q with
  | inr r => exact ⟨r, rfl, Or.inr h2⟩
  | inl r => exact ⟨-1, rfl, Or.inl ⟨rfl, h2⟩⟩
theorem e_findSizes (W : WF n N R B V) (T0 : RT V M) (h12 : ∀ j, j < 2 ^ n → M.2 12 j = Int64.ofInt (tot R B V j)) : ∃ M', p_Md_findSizes M = some M' ∧ RT V M' ∧ ∀ g, g < n → M'.2 15 g = Int64.ofInt (szI n R B V g : Int) := by
  have hb := W.2.1
  have hq : ∃ q : Int32 × Mem, itr zfu (fun s => p_Md_findSizes_L2 s.1 s.2) ((0 : Int32), M) = some q ∧ RT V q.2 ∧ ∀ g, g < n → q.2.2 15 g = Int64.ofInt (szI n R B V g : Int) := by
    refine itr_run (σ := Int32 × Mem) (ρ := Int32 × Mem) (fun i s => s.1 = nI i ∧ RT V s.2 ∧ s.2.2 12 = M.2 12 ∧ ∀ g, g < i → s.2.2 15 g = Int64.ofInt (szI n R B V g : Int)) (fun q => RT V q.2 ∧ ∀ g, g < n → q.2.2 15 g = Int64.ofInt (szI n R B V g : Int)) n (zfu_gt (by omega)) ⟨rfl, T0, rfl, fun k h => by omega⟩ (fun i s hi hp => ?_) (fun s hp => ?_)
    · obtain ⟨x, M1⟩ := s
      obtain ⟨rfl, T1, hx, hk⟩ := hp
      dsimp only at T1 hx hk
      have k0 : M1.1 0 1 = nI n := T1.2.1.trans W.1.1
      have k1 : ¬ nI n ≤ nI i := nI_ge (by omega) (by omega)
      have k2 : inb (nI i) 6 = true := inb_nI (by omega) (by omega)
      have eg := e_groupBits W T1 (show i < 6 by omega)
      have gl := @gbN_lt n N R B V W i
      have gz : nI (gbN n V i) = 0 ↔ gbN n V i = 0 := nI_z (by omega)
      by_cases e : (thN n V).testBit i = true
      · have gn := gb_ne.mpr e
        obtain ⟨t1, t2, t3⟩ := el_t _ (thN_lt W) i (by omega) e
        obtain ⟨M2, e2, x2, _⟩ := e_mdShare W T1 (fun j hj => by rw [hx]; exact h12 j hj) t2
        rw [t1] at e2
        have sb := shC_bd W (show i < 6 by omega) (mn := false)
        have hc := cmp0 (a := shC n R B V i false) (by omega) (by omega)
        refine ⟨.inl (nI (i + 1), wL M2 15 (nI i) (Int64.ofInt ((shC n R B V i false).natAbs : Int))), ?_, rfl, (T1.o x2).sL, ?_, fun g hg => ?_⟩
        · simp only [p_Md_findSizes_L2, k0, k1, bnd_e eg, gz, gn, bnd_e e2, hc, k2, chk_true, nm_s, nI_1, ↓reduceIte]
          by_cases c1 : 0 < shC n R B V i false
          · rw [if_pos c1, if_pos z_0l1, show ((shC n R B V i false).natAbs : Int) = shC n R B V i false by omega]
          · rw [if_neg c1]
            by_cases c2 : shC n R B V i false = 0
            · rw [if_pos c2, if_pos z_0l0, show ((shC n R B V i false).natAbs : Int) = shC n R B V i false by omega]
            · rw [if_neg c2, if_neg z_0lm, ← Int64.ofInt_neg, show ((shC n R B V i false).natAbs : Int) = -shC n R B V i false by omega]
        · show (wL M2 15 (nI i) _).2 12 = _
          simp only [wL]
          rw [if_neg (by omega), x2.1]; exact hx
        · show (wL M2 15 (nI i) _).2 15 g = _
          rw [wL_at (by omega)]
          by_cases q : g = i
          · rw [if_pos q, q]; unfold szI; rw [if_pos e]
          · rw [if_neg q, x2.1]; exact hk g (by omega)
      · have gn : gbN n V i = 0 := Decidable.byContradiction (fun q => e (gb_ne.mp q))
        have hc : (0 : Int32) ≤ lg_cmp 0 0 := by decide
        refine ⟨.inl (nI (i + 1), wL M1 15 (nI i) 0), ?_, rfl, T1.sL, ?_, fun g hg => ?_⟩
        · have gz' := gz.mpr gn
          simp only [p_Md_findSizes_L2, k0, k1, bnd_e eg, gz', hc, k2, chk_true, nm_s, nI_1, ↓reduceIte]
        · show (wL M1 15 (nI i) _).2 12 = _
          simp only [wL]
          rw [if_neg (by omega)]; exact hx
        · show (wL M1 15 (nI i) _).2 15 g = _
          rw [wL_at (by omega)]
          by_cases q : g = i
          · rw [if_pos q, q]; unfold szI; rw [if_neg e]; exact lI_0.symm
          · rw [if_neg q]; exact hk g (by omega)
    · obtain ⟨x, M1⟩ := s
      obtain ⟨rfl, T1, hx, hk⟩ := hp
      dsimp only at T1 hx hk
      have k0 : M1.1 0 1 = nI n := T1.2.1.trans W.1.1
      have k1 : nI n ≤ nI n := nI_le (by omega) (by omega)
      exact ⟨(nI n, M1), by simp only [p_Md_findSizes_L2, k0, k1, ↓reduceIte], T1, hk⟩
  obtain ⟨q, h1, h2, h3⟩ := hq
  refine ⟨q.2, ?_, h2, h3⟩
  unfold p_Md_findSizes
  rw [bnd_e h1]
theorem e_rank63 (W : WF n N R B V) (T0 : RT V M) {g : Nat} {sz : Nat → Nat} (hg : g < n) (tg : (thN n V).testBit g = true) (hs : ∀ o, o < n → M.2 15 o = Int64.ofInt (sz o : Int)) (hz : ∀ o, o < 6 → sz o ≤ 20971520000) : ∃ z, itr zfu (fun s => p_Md_rank_L63 M (nI g) s.1 s.2) ((0 : Int32), (0 : Int32)) = some (nI (cb (ahB (thN n V) sz g) 6), z) := by
  have hb := W.2.1
  have hl := thN_lt2 W
  have ht : cb (ahB (thN n V) sz g) 6 = cb (ahB (thN n V) sz g) n := cb_tail hb.2.1 (fun o h1 h2 q => by
    have := (ahB_iff.mp q).1
    rw [Nat.testBit_lt_two_pow (Nat.lt_of_lt_of_le hl (Nat.pow_le_pow_right (by omega) h1))] at this
    cases this)
  rw [ht]
  have k0 : M.1 0 1 = nI n := T0.2.1.trans W.1.1
  refine ⟨nI n, itr_st (fun i => (nI (cb (ahB (thN n V) sz g) i), nI i)) n (zfu_gt (by omega)) (fun i hi => ?_) ?_⟩
  · have k1 : ¬ nI n ≤ nI i := nI_ge (by omega) (by omega)
    have k2 : inb (nI i) 6 = true := inb_nI (by omega) (by omega)
    have k3 : inb (nI g) 6 = true := inb_nI (by omega) (by omega)
    have eg := e_groupBits W T0 (show g < 6 by omega)
    have ei := e_groupBits W T0 (show i < 6 by omega)
    have gl := @gbN_lt n N R B V W i
    have gl2 := @gbN_lt n N R B V W g
    have gz : nI (gbN n V i) = 0 ↔ gbN n V i = 0 := nI_z (by omega)
    have gz2 : ¬ nI (gbN n V g) = 0 := mt (nI_z (by omega)).mp (gb_ne.mpr tg)
    have ee : nI i = nI g ↔ i = g := nI_eq (by omega) (by omega)
    have hc := cmpI (a := (sz i : Int)) (b := (sz g : Int)) (by omega) (by have := hz i (by omega); omega) (by omega) (by have := hz g (by omega); omega)
    have kl : nI g ≤ nI i ↔ g ≤ i := nI_leI (by omega) (by omega)
    have f1 : ahB (thN n V) sz g i = true → nI (cb (ahB (thN n V) sz g) (i + 1)) = nI (cb (ahB (thN n V) sz g) i + 1) := fun h => by rw [cb, if_pos h]
    have f0 : ¬ ahB (thN n V) sz g i = true → nI (cb (ahB (thN n V) sz g) (i + 1)) = nI (cb (ahB (thN n V) sz g) i) := fun h => by rw [cb, if_neg h]; rfl
    have a0 : ∀ x : Int32, x + 0 = x := fun x => Int32.add_zero x
    simp only [p_Md_rank_L63, k0, k1, k2, k3, bnd_e eg, bnd_e ei, gz2, chk_true, nI_clamp (show i < 2 ^ 31 by omega), nI_clamp (show g < 2 ^ 31 by omega), hs i hi, hs g hg, hc, kl, nI_1, ee, gz, a0, ↓reduceIte]
    by_cases c0 : i = g
    · rw [if_pos c0, f0 (fun q => by have := (ahB_iff.mp q).2; rw [c0] at this; omega)]
    · rw [if_neg c0]
      by_cases e : (thN n V).testBit i = true
      · rw [if_neg (gb_ne.mpr e)]
        by_cases c1 : (sz g : Int) < (sz i : Int)
        · rw [if_pos c1, if_pos z_01, f1 (ahB_iff.mpr ⟨e, Or.inl (by omega)⟩)]
        · rw [if_neg c1]
          by_cases c2 : (sz i : Int) = (sz g : Int)
          · rw [if_pos c2, if_neg z_00, if_pos rfl]
            by_cases c3 : g ≤ i
            · rw [if_pos c3, f0 (fun q => by have := (ahB_iff.mp q).2; omega)]
            · rw [if_neg c3, f1 (ahB_iff.mpr ⟨e, Or.inr (by omega)⟩)]
          · rw [if_neg c2, if_neg z_0m, if_neg z_m0, f0 (fun q => by have := (ahB_iff.mp q).2; omega)]
      · rw [if_pos (Decidable.byContradiction (fun q => e (gb_ne.mp q))), f0 (fun q => e (ahB_iff.mp q).1)]
  · have k1 : nI n ≤ nI n := nI_le (by omega) (by omega)
    simp only [p_Md_rank_L63, k0, k1, ↓reduceIte]
theorem e_rank49 (W : WF n N R B V) (T0 : RT V M) {p : Nat} {sz : Nat → Nat} (hp : p < 2 ^ 31) (hs : ∀ o, o < n → M.2 15 o = Int64.ofInt (sz o : Int)) (hz : ∀ o, o < 6 → sz o ≤ 20971520000) : ∃ q, itr zfu (fun s => p_Md_rank_L49 (nI p) M s.1 s.2) ((-1 : Int32), (0 : Int32)) = some q ∧ fnd (thN n V) sz p q.1 := by
  have hb := W.2.1
  have hl := thN_lt2 W
  have k0 : M.1 0 1 = nI n := T0.2.1.trans W.1.1
  refine itr_run (σ := Int32 × Int32) (ρ := Int32 × Int32) (fun i s => s.2 = nI i ∧ ((s.1 = -1 ∧ ∀ g, g < i → (thN n V).testBit g = true → ¬ cb (ahB (thN n V) sz g) 6 = p) ∨ ∃ g, g < i ∧ (thN n V).testBit g = true ∧ cb (ahB (thN n V) sz g) 6 = p ∧ s.1 = nI g)) (fun q => fnd (thN n V) sz p q.1) n (zfu_gt (by omega)) ⟨rfl, Or.inl ⟨rfl, fun g hg => by omega⟩⟩ (fun i s hi hp => ?_) (fun s hp => ?_)
  · obtain ⟨x, y⟩ := s
    obtain ⟨rfl, hk⟩ := hp
    dsimp only at hk
    have k1 : ¬ nI n ≤ nI i := nI_ge (by omega) (by omega)
    have eg := e_groupBits W T0 (show i < 6 by omega)
    have gl := @gbN_lt n N R B V W i
    have gz : nI (gbN n V i) = 0 ↔ gbN n V i = 0 := nI_z (by omega)
    by_cases e : (thN n V).testBit i = true
    · obtain ⟨z, ez⟩ := e_rank63 W T0 hi e hs hz
      have gn := gb_ne.mpr e
      have ee : nI (cb (ahB (thN n V) sz i) 6) = nI p ↔ cb (ahB (thN n V) sz i) 6 = p := nI_eq (by have := @cb_bd (ahB (thN n V) sz i) 6; omega) (by omega)
      by_cases q : cb (ahB (thN n V) sz i) 6 = p
      · refine ⟨.inl (nI i, nI (i + 1)), ?_, rfl, Or.inr ⟨i, by omega, e, q, rfl⟩⟩
        have ee' := ee.mpr q
        simp only [p_Md_rank_L49, k0, k1, bnd_e ez, bnd_e eg, gz, gn, ee', nI_1, ↓reduceIte]
      · refine ⟨.inl (x, nI (i + 1)), ?_, rfl, ?_⟩
        · simp only [p_Md_rank_L49, k0, k1, bnd_e ez, bnd_e eg, gz, gn, ee, q, nI_1, ↓reduceIte]
        · rcases hk with ⟨h1, h2⟩ | ⟨g, g1, g2⟩
          · refine Or.inl ⟨h1, fun g hg tg => ?_⟩
            by_cases h : g = i
            · rw [h]; exact q
            · exact h2 g (by omega) tg
          · exact Or.inr ⟨g, by omega, g2⟩
    · have gn : nI (gbN n V i) = 0 := gz.mpr (Decidable.byContradiction (fun q => e (gb_ne.mp q)))
      have ez : itr zfu (fun s => p_Md_rank_L63 M (nI i) s.1 s.2) ((0 : Int32), (0 : Int32)) = some ((0 : Int32), (0 : Int32)) := by
        refine itr_st (fun _ => ((0 : Int32), (0 : Int32))) 0 (zfu_gt (by omega)) (fun i hi => by omega) ?_
        have k3 : ¬ nI n ≤ 0 := nI_nle (by omega) (by omega)
        simp only [p_Md_rank_L63, k0, k3, bnd_e eg, gn, ↓reduceIte]
      refine ⟨.inl (x, nI (i + 1)), ?_, rfl, ?_⟩
      · simp only [p_Md_rank_L49, k0, k1, bnd_e ez, bnd_e eg, gn, nI_1, ↓reduceIte]
      · rcases hk with ⟨h1, h2⟩ | ⟨g, g1, g2⟩
        · refine Or.inl ⟨h1, fun g hg tg => ?_⟩
          by_cases h : g = i
          · rw [h] at tg; exact absurd tg e
          · exact h2 g (by omega) tg
        · exact Or.inr ⟨g, by omega, g2⟩
  · obtain ⟨x, y⟩ := s
    obtain ⟨rfl, hk⟩ := hp
    dsimp only at hk
    have k1 : nI n ≤ nI n := nI_le (by omega) (by omega)
    refine ⟨(x, nI n), by simp only [p_Md_rank_L49, k0, k1, ↓reduceIte], ?_⟩
    rcases hk with ⟨h1, h2⟩ | ⟨g, g1, g2⟩
    · refine Or.inl ⟨h1, fun g hg tg => ?_⟩
      by_cases h : g < n
      · exact h2 g h tg
      · rw [Nat.testBit_lt_two_pow (Nat.lt_of_lt_of_le hl (Nat.pow_le_pow_right (by omega) (show n ≤ g by omega)))] at tg
        cases tg
    · exact Or.inr ⟨g, by omega, g2⟩
end PS
theorem g_rank : Gd_rank Inv := by
  intro M1 M2 ⟨n, N, R, B, V, W, C, T⟩ a1
  have hb := W.2.1
  have T1 : RT V (wF M2 0 0 0) := T.sF (Or.inl rfl)
  obtain ⟨M3, e3, x3, a17, _⟩ := e_list0 W T1
  have T3 := T1.o x3
  have hm := @pc_le (thN n V)
  have h0 : 0 < pc (thN n V) := by
    have := (el_t _ (thN_lt W) (gr V 0) (gr_lt W (by omega)).1 (thN_bit.mpr ⟨0, by omega, rfl⟩)).2.1
    omega
  have ei := e_inN (M := M3) (a := a1) h0 (by omega) a17
  have ec := e_count W C
  have lk : a1 < nI (pc (thN n V)) ↔ ¬ nI (pc (thN n V)) ≤ a1 := by
    rw [Int32.lt_iff_toInt_lt, Int32.le_iff_toInt_le]; omega
  by_cases ca : inb a1 (pc (thN n V)) = true
  · have ca' := (inb_iff (by omega)).mp ca
    obtain ⟨ae, al⟩ := inb_eq ca
    have cB : M1.1 9 2 = nI B := C.1.2.2.2.2.2.trans W.1.2.2.2
    have tB : M3.1 0 13 = nI B := T3.2.2.2.2.trans W.1.2.2.2
    have nz : nI B = 0 ↔ B = 0 := nI_z (by omega)
    by_cases c0 : B = 0
    · refine ⟨-3, M1, M3, ?_, ?_, n, N, R, B, V, W, C, T3⟩
      · unfold p_ES_rank
        rw [if_neg ca'.1, bnd_e ec, if_pos (lk.mpr ca'.2)]
        simp only [p_Rw_count, bnd_s, cB]
        rw [if_pos (nz.mpr c0)]
      · unfold p_Md_rank
        rw [nm_s, bnd_e e3, bnd_e ei, if_pos ca, if_neg one_ne, tB, if_pos (nz.mpr c0)]
    · obtain ⟨M4, e4, x4, t4⟩ := e_sumAll W T3
      have T4 := T3.x x4
      obtain ⟨M5, e5, T5, s5⟩ := e_findSizes W T4 t4
      obtain ⟨M6, e6, x6, s6⟩ := e_measure W C
      have C6 : RC N R B V M6 := C.of hb.2.2.2.2 (fun k hk => x6 k (by omega)) (by rw [x6 24 (by omega)])
      have ap : a1.toNatClampNeg < 2 ^ 31 := by omega
      obtain ⟨r, r1, r2⟩ := e_groupAt W C6 ap s6 (fun o ho => szI_bd W ho)
      obtain ⟨q, q1, q2⟩ := e_rank49 W T5 ap s5 (fun o ho => szI_bd W ho)
      rw [← ae] at r1 q1
      refine ⟨r, M6, M5, ?_, ?_, n, N, R, B, V, W, C6, T5⟩
      · unfold p_ES_rank
        rw [if_neg ca'.1, bnd_e ec, if_pos (lk.mpr ca'.2)]
        simp only [p_Rw_count, bnd_s, cB]
        rw [if_neg (mt nz.mp c0), bnd_e e6, bnd_e r1]
      · unfold p_Md_rank
        rw [nm_s, bnd_e e3, bnd_e ei, if_pos ca, if_neg one_ne, tB, if_neg (mt nz.mp c0), bnd_e e4, bnd_e e5, bnd_e q1, fnd_u r2 q2]
  · refine ⟨-1, M1, M3, ?_, ?_, n, N, R, B, V, W, C, T3⟩
    · unfold p_ES_rank
      by_cases c : a1 < 0
      · rw [if_pos c]
      · rw [if_neg c, bnd_e ec, if_neg (fun q => ca ((inb_iff (by omega)).mpr ⟨c, lk.mp q⟩))]
    · unfold p_Md_rank
      rw [nm_s, bnd_e e3, bnd_e ei, if_neg ca, if_pos rfl]
