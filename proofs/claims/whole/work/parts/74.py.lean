section PS
variable {n N R B : Nat} {V : Vw} {M : Mem}
theorem e_mdDraw {m : Nat} {z : Int32} (hm : m < 7) (h0 : 0 < m) (h17 : M.1 0 17 = nI m) : ∃ (q : Int32 × Mem) (q' : Int32 × Int32 × Mem), itr zfu (fun s => p_Md_drawn_L86 s.1 s.2) ((0 : Int32), M) = some q ∧ itr zfu (fun s => p_Md_drawn_L118 s.1 s.2.1 s.2.2) (z, (q.2.1 0 17) - (1 : Int32), q.2) = some q' ∧ XO M q'.2.2 ∧ q'.2.2.1 13 = M.1 13 ∧ q'.2.2.1 0 17 = nI m ∧ q'.1 = (ds m z (m - 1)).1 ∧ ∀ k, k < m → q'.2.2.1 14 k = nI ((ds m z (m - 1)).2 k) := by
  have hq : ∃ q : Int32 × Mem, itr zfu (fun s => p_Md_drawn_L86 s.1 s.2) ((0 : Int32), M) = some q ∧ XO M q.2 ∧ q.2.1 13 = M.1 13 ∧ q.2.1 0 17 = nI m ∧ ∀ k, k < m → q.2.1 14 k = nI k := by
    refine itr_run (σ := Int32 × Mem) (ρ := Int32 × Mem) (fun i s => s.1 = nI i ∧ XO M s.2 ∧ s.2.1 13 = M.1 13 ∧ s.2.1 0 17 = nI m ∧ ∀ k, k < i → s.2.1 14 k = nI k) (fun q => XO M q.2 ∧ q.2.1 13 = M.1 13 ∧ q.2.1 0 17 = nI m ∧ ∀ k, k < m → q.2.1 14 k = nI k) m (zfu_gt (by omega)) ⟨rfl, XO.rf, rfl, h17, fun k hk => by omega⟩ (fun i s hi hp => ?_) (fun s hp => ?_)
    · obtain ⟨x, M1⟩ := s
      obtain ⟨rfl, hx, h13, h17, hk⟩ := hp
      dsimp only at hx h13 h17 hk
      have k1 : ¬ nI m ≤ nI i := nI_ge (by omega) (by omega)
      have k2 : inb (nI i) 6 = true := inb_nI (by omega) (by omega)
      refine ⟨.inl (nI (i + 1), wI M1 14 (nI i) (nI i)), ?_, rfl, hx.w (Or.inr rfl), ?_, ?_, fun k hk2 => ?_⟩
      · simp only [p_Md_drawn_L86, h17, k1, k2, chk_true, nm_s, nI_1, ↓reduceIte]
      · dsimp only; rw [wI_ne (by omega : 13 ≠ 14)]; exact h13
      · dsimp only; rw [wI_ne (by omega : 0 ≠ 14)]; exact h17
      · dsimp only
        rw [wI_at (by omega)]
        by_cases e : k = i
        · rw [if_pos e, e]
        · rw [if_neg e]; exact hk k (by omega)
    · obtain ⟨x, M1⟩ := s
      obtain ⟨rfl, hx, h13, h17, hk⟩ := hp
      dsimp only at hx h13 h17 hk
      have k1 : nI m ≤ nI m := nI_le (by omega) (by omega)
      exact ⟨(nI m, M1), by simp only [p_Md_drawn_L86, h17, k1, ↓reduceIte], hx, h13, h17, hk⟩
  obtain ⟨q, h1, x1, q13, q17, q14⟩ := hq
  have hq' : ∃ q' : Int32 × Int32 × Mem, itr zfu (fun s => p_Md_drawn_L118 s.1 s.2.1 s.2.2) (z, nI (m - 1), q.2) = some q' ∧ XO M q'.2.2 ∧ q'.2.2.1 13 = M.1 13 ∧ q'.2.2.1 0 17 = nI m ∧ q'.1 = (ds m z (m - 1)).1 ∧ ∀ k, k < m → q'.2.2.1 14 k = nI ((ds m z (m - 1)).2 k) := by
    refine itr_run (σ := Int32 × Int32 × Mem) (ρ := Int32 × Int32 × Mem) (fun i s => s.1 = (ds m z i).1 ∧ s.2.1 = nI (m - 1 - i) ∧ XO M s.2.2 ∧ s.2.2.1 13 = M.1 13 ∧ s.2.2.1 0 17 = nI m ∧ ∀ k, k < m → s.2.2.1 14 k = nI ((ds m z i).2 k)) (fun q' => XO M q'.2.2 ∧ q'.2.2.1 13 = M.1 13 ∧ q'.2.2.1 0 17 = nI m ∧ q'.1 = (ds m z (m - 1)).1 ∧ ∀ k, k < m → q'.2.2.1 14 k = nI ((ds m z (m - 1)).2 k)) (m - 1) (zfu_gt (by omega)) ⟨rfl, rfl, x1, q13, q17, q14⟩ (fun i s hi hp => ?_) (fun s hp => ?_)
    · obtain ⟨y, x, M1⟩ := s
      obtain ⟨rfl, rfl, hx, h13, h17, hk⟩ := hp
      dsimp only at hx h13 h17 hk
      have k1 : ¬ nI (m - 1 - i) ≤ (0 : Int32) := nI_nle (by omega) (by omega)
      have k2 : inb (nI (m - 1 - i)) 6 = true := inb_nI (by omega) (by omega)
      have k4 : decide (¬ nI (m - 1 - i + 1) = 0) = true := decide_eq_true (nI_ne0 (by omega) (by omega))
      have el : ∀ u : Int32, u * (1103515245 : Int32) + (12345 : Int32) = lcg u := fun u => by unfold lcg; exact Eq.refl _
      have er : nI (us (lcg (ds m z i).1)) - nI (us (lcg (ds m z i).1)) / nI (m - 1 - i + 1) * nI (m - 1 - i + 1) = nI (us (lcg (ds m z i).1) % (m - 1 - i + 1)) := nI_rem (by have := us_lt (lcg (ds m z i).1); omega) (by omega) (by omega)
      have hj := Nat.mod_lt (us (lcg (ds m z i).1)) (show 0 < m - 1 - i + 1 by omega)
      have es : ds m z (i + 1) = (lcg (ds m z i).1, sw (ds m z i).2 (m - 1 - i) (us (lcg (ds m z i).1) % (m - 1 - i + 1))) := rfl
      rw [es]
      dsimp only
      generalize us (lcg (ds m z i).1) % (m - 1 - i + 1) = j at *
      generalize hc : m - 1 - i = c at *
      have k3 : inb (nI j) 6 = true := inb_nI (by omega) (by omega)
      have em : nI c + (-1 : Int32) = nI (m - 1 - (i + 1)) := by
        rw [show m - 1 - (i + 1) = c - 1 by omega, ← nI_sub (show 1 ≤ c by omega)]
        rw [Int32.sub_eq_add_neg]
        rfl
      refine ⟨.inl (lcg (ds m z i).1, nI (m - 1 - (i + 1)), wI (wI M1 14 (nI c) (M1.1 14 j)) 14 (nI j) (M1.1 14 c)), ?_, rfl, rfl, (hx.w (Or.inr rfl)).w (Or.inr rfl), ?_, ?_, fun k hk2 => ?_⟩
      · simp only [p_Md_drawn_L118, k1, el, us_t, nI_1, er, k2, k4, k3, chk_true, nm_s, nI_clamp (show j < 2 ^ 31 by omega), nI_clamp (show c < 2 ^ 31 by omega), em, ↓reduceIte]
      · dsimp only; rw [wI_ne (by omega : 13 ≠ 14), wI_ne (by omega : 13 ≠ 14)]; exact h13
      · dsimp only; rw [wI_ne (by omega : 0 ≠ 14), wI_ne (by omega : 0 ≠ 14)]; exact h17
      · dsimp only
        rw [wI_at (by omega), wI_at (by omega)]
        unfold sw
        by_cases e1 : k = j
        · rw [if_pos e1, if_pos e1]; exact hk c (by omega)
        · rw [if_neg e1, if_neg e1]
          by_cases e2 : k = c
          · rw [if_pos e2, if_pos e2]; exact hk j (by omega)
          · rw [if_neg e2, if_neg e2]; exact hk k hk2
    · obtain ⟨y, x, M1⟩ := s
      obtain ⟨rfl, rfl, hx, h13, h17, hk⟩ := hp
      dsimp only at hx h13 h17 hk
      have k1 : nI (m - 1 - (m - 1)) ≤ (0 : Int32) := by rw [Nat.sub_self]; decide
      exact ⟨((ds m z (m - 1)).1, nI (m - 1 - (m - 1)), M1), by simp only [p_Md_drawn_L118, k1, ↓reduceIte], hx, h13, h17, rfl, hk⟩
  obtain ⟨q', h2, r⟩ := hq'
  refine ⟨q, q', h1, ?_, r⟩
  rw [q17, show nI m - 1 = nI (m - 1) from nI_sub (show 1 ≤ m by omega)]
  exact h2
def dT (n R B : Nat) (V : Vw) (z : Int32) (k0 : Nat → Nat) (g w : Nat) : Int := brT R B V (colN n V (orf (fun j => 2 ^ el (thN n V) (od (pc (thN n V)) z w j)) (k0 w))) (colN n V (2 ^ g))
theorem dT_bd (W : WF n N R B V) {z : Int32} {k0 : Nat → Nat} {g d : Nat} (hd : d ≤ 20) : -3200000 ≤ sm (dT n R B V z k0 g) d ∧ sm (dT n R B V z k0 g) d ≤ 3200000 := by
  have := sm_bound (f := dT n R B V z k0 g) (C := 160000) (k := d) (fun i _ => by unfold dT; exact brT_bd W)
  omega
theorem e_drawnSum (W : WF n N R B V) (C : RC N R B V M) {z : Int32} {g d : Nat} {k0 : Nat → Nat} (hg : g < 6) (tg : (thN n V).testBit g = true) (hd : d ≤ 20) (hk : ∀ w, k0 w < pc (thN n V) ∧ od (pc (thN n V)) z w (k0 w) = pc (thN n V % 2 ^ g) ∧ ∀ j, j < k0 w → ¬ od (pc (thN n V)) z w j = pc (thN n V % 2 ^ g)) : ∃ M', p_Me_drawnSum (nI g) z (nI d) M = some (Int64.ofInt (sm (dT n R B V z k0 g) d), M') ∧ XD M M' := by
  have hb := W.2.1
  have hT := thN_lt W
  obtain ⟨t1, t2, t3⟩ := el_t _ hT g hg tg
  have hm := @pc_le (thN n V)
  have hq : ∃ q : Int64 × Int32 × Mem, itr zfu (fun s => p_Me_drawnSum_L26 (nI g) (nI d) (nI (colN n V (2 ^ g))) s.1 s.2.1 s.2.2) ((0 : Int64), (0 : Int32), wF M 22 3 z) = some q ∧ q.1 = Int64.ofInt (sm (dT n R B V z k0 g) d) ∧ XD M q.2.2 := by
    refine itr_run (σ := Int64 × Int32 × Mem) (ρ := Int64 × Int32 × Mem) (fun w s => s.1 = Int64.ofInt (sm (dT n R B V z k0 g) w) ∧ s.2.1 = nI w ∧ XD M s.2.2 ∧ s.2.2.1 22 3 = zs (pc (thN n V)) z w) (fun q => q.1 = Int64.ofInt (sm (dT n R B V z k0 g) d) ∧ XD M q.2.2) d (zfu_gt (by omega)) ⟨rfl, rfl, XD.rf.f, wF_at⟩ (fun w s hw hp => ?_) (fun s hp => ?_)
    · obtain ⟨x, y, M1⟩ := s
      obtain ⟨rfl, rfl, hx, h3⟩ := hp
      dsimp only at hx h3
      have C1 := C.d hb.2.2.2.2 hx
      have k1 : ¬ nI d ≤ nI w := nI_ge (by omega) (by omega)
      obtain ⟨M2, e2, x2, a2, a3, a23⟩ := e_drawNext W C1 h3 (by omega)
      have C2 := C1.d hb.2.2.2.2 x2
      obtain ⟨w1, w2, w3⟩ := hk w
      have pr := od_prm (m := pc (thN n V)) (z := z) (w := w) (by omega)
      have eb := e_groupsBefore (M := M2) (m := pc (thN n V)) (k0 := k0 w) (g := g) (o := fun k => el (thN n V) (od (pc (thN n V)) z w k)) (by omega) a2 a23 (fun k hk => (el_b _ hT _ (pr.1 k hk)).2.1) hg w1 (by rw [w2]; exact t1) (fun j hj q => w3 j hj (el_inj hT (pr.1 j (by omega)) t2 (q.trans t1.symm)))
      have hP : orf (fun j => 2 ^ el (thN n V) (od (pc (thN n V)) z w j)) (k0 w) < 64 := orf_lt (fun j hj => pw_lt (el_b _ hT _ (pr.1 j (by omega))).2.1)
      have ec := e_columnsOf W C2 hP
      obtain ⟨M3, e3, x3⟩ := e_brought W C2 (a := colN n V (orf (fun j => 2 ^ el (thN n V) (od (pc (thN n V)) z w j)) (k0 w))) (b := colN n V (2 ^ g)) (colN_lt W) (by rw [← colN_or W]; exact colN_lt W)
      refine ⟨.inl (Int64.ofInt (sm (dT n R B V z k0 g) (w + 1)), nI (w + 1), M3), ?_, rfl, rfl, (hx.tr x2).tr (XD.of x3), ?_⟩
      · simp only [p_Me_drawnSum_L26, k1, bnd_e e2, bnd_e eb, bnd_e ec, bnd_e e3, nI_1, sm, dT, brT, Int64.ofInt_add, ↓reduceIte]
      · dsimp only; rw [x3.2 22 (by omega)]; exact a3
    · obtain ⟨x, y, M1⟩ := s
      obtain ⟨rfl, rfl, hx, h3⟩ := hp
      dsimp only at hx h3
      have k1 : nI d ≤ nI d := nI_le (by omega) (by omega)
      exact ⟨(Int64.ofInt (sm (dT n R B V z k0 g) d), nI d, M1), by simp only [p_Me_drawnSum_L26, k1, ↓reduceIte], rfl, hx⟩
  obtain ⟨q, h1, h2, h3⟩ := hq
  refine ⟨q.2.2, ?_, h3⟩
  unfold p_Me_drawnSum
  rw [shl_t g (by omega), bnd_e (e_columnsOf W C (pw_lt hg))]
  simp only [p_Or_start, nm_s, bnd_s]
  rw [bnd_e h1, h2]
theorem e_mdDrawn (W : WF n N R B V) (T0 : RT V M) (h12 : ∀ j, j < 2 ^ n → M.2 12 j = Int64.ofInt (tot R B V j)) {z : Int32} {g d : Nat} {k0 : Nat → Nat} (hg : g < 6) (tg : (thN n V).testBit g = true) (hd : d ≤ 20) (hk : ∀ w, k0 w < pc (thN n V) ∧ od (pc (thN n V)) z w (k0 w) = pc (thN n V % 2 ^ g) ∧ ∀ j, j < k0 w → ¬ od (pc (thN n V)) z w j = pc (thN n V % 2 ^ g))
    (h17 : M.1 0 17 = nI (pc (thN n V))) (h13 : ∀ k, k < pc (thN n V) → M.1 13 k = nI (gbN n V (el (thN n V) k))) :
    ∃ q : Int32 × Int64 × Int32 × Mem, itr zfu (fun s => p_Md_drawn_L77 (nI d) (nI (gbN n V g)) s.1 s.2.1 s.2.2.1 s.2.2.2) (z, (0 : Int64), (0 : Int32), M) = some q ∧ q.2.1 = Int64.ofInt (sm (dT n R B V z k0 g) d) ∧ XO M q.2.2.2 := by
  have hb := W.2.1
  have hT := thN_lt W
  have hp6 := pw6 hb.2.1
  obtain ⟨t1, t2, t3⟩ := el_t _ hT g hg tg
  have hm := @pc_le (thN n V)
  refine itr_run (σ := Int32 × Int64 × Int32 × Mem) (ρ := Int32 × Int64 × Int32 × Mem) (fun w s => s.1 = zs (pc (thN n V)) z w ∧ s.2.1 = Int64.ofInt (sm (dT n R B V z k0 g) w) ∧ s.2.2.1 = nI w ∧ XO M s.2.2.2 ∧ s.2.2.2.1 13 = M.1 13 ∧ s.2.2.2.1 0 17 = nI (pc (thN n V))) (fun q => q.2.1 = Int64.ofInt (sm (dT n R B V z k0 g) d) ∧ XO M q.2.2.2) d (zfu_gt (by omega)) ⟨rfl, rfl, rfl, XO.rf, rfl, h17⟩ (fun w s hw hp => ?_) (fun s hp => ?_)
  · obtain ⟨u, x, y, M1⟩ := s
    obtain ⟨rfl, rfl, rfl, hx, b13, b17⟩ := hp
    dsimp only at hx b13 b17
    have k1 : ¬ nI d ≤ nI w := nI_ge (by omega) (by omega)
    obtain ⟨q, q', f1, f2, x2, c13, c17, c1, c14⟩ := e_mdDraw (M := M1) (z := zs (pc (thN n V)) z w) (show pc (thN n V) < 7 by omega) (by omega) b17
    obtain ⟨w1, w2, w3⟩ := hk w
    have pr := od_prm (m := pc (thN n V)) (z := z) (w := w) (by omega)
    have eb := e_before (M := q'.2.2) (m := pc (thN n V)) (i := pc (thN n V % 2 ^ g)) (k0 := k0 w) (bits := gbN n V g) (pt := fun k => gbN n V (el (thN n V) k)) (o := od (pc (thN n V)) z w) (fun k hk => by rw [c13, b13]; exact h13 k hk) c14 (by omega) pr.1 (fun k _ => gbN_lt W) (gbN_lt W) (fun j hj => ⟨fun h => el_inj hT hj t2 ((gb_inj (gb_ne.mpr tg) h.symm).symm.trans t1.symm), fun h => by rw [h, t1]⟩) w1 w2 w3
    have ee : orf (fun j => gbN n V (el (thN n V) (od (pc (thN n V)) z w j))) (k0 w) = colN n V (orf (fun j => 2 ^ el (thN n V) (od (pc (thN n V)) z w j)) (k0 w)) := by
      rw [colN_orf W]
      exact orf_congr (fun j _ => gb_col)
    rw [ee] at eb
    have eT : dT n R B V z k0 g w = tot R B V (colN n V (orf (fun j => 2 ^ el (thN n V) (od (pc (thN n V)) z w j)) (k0 w)) ||| gbN n V g) - tot R B V (colN n V (orf (fun j => 2 ^ el (thN n V) (od (pc (thN n V)) z w j)) (k0 w))) := by
      unfold dT brT; rw [← gb_col]
    generalize orf (fun j => 2 ^ el (thN n V) (od (pc (thN n V)) z w j)) (k0 w) = P at eb eT
    have l1 : colN n V P ||| gbN n V g < 2 ^ n := Nat.or_lt_two_pow colN_lt2 (by rw [gb_col]; exact colN_lt2)
    have l2 : colN n V P < 2 ^ n := colN_lt2
    have s1 : q'.2.2.2 12 = M.2 12 := by rw [(hx.tr x2).1]
    refine ⟨.inl (q'.1, Int64.ofInt (sm (dT n R B V z k0 g) (w + 1)), nI (w + 1), q'.2.2), ?_, c1, rfl, rfl, hx.tr x2, c13.trans b13, c17⟩
    simp only [p_Md_drawn_L77, k1, bnd_e f1, bnd_e f2, bnd_e eb, nI_or, chk_t (inb_nI (show colN n V P ||| gbN n V g < 64 by omega) (by omega)), chk_t (inb_nI (show colN n V P < 64 by omega) (by omega)), nI_clamp (show colN n V P ||| gbN n V g < 2 ^ 31 by omega), nI_clamp (show colN n V P < 2 ^ 31 by omega), s1, h12 _ l1, h12 _ l2, nI_1, sm, eT, Int64.ofInt_add, Int64.ofInt_sub, ↓reduceIte]
  · obtain ⟨u, x, y, M1⟩ := s
    obtain ⟨rfl, rfl, rfl, hx, b13, b17⟩ := hp
    dsimp only at hx b13 b17
    have k1 : nI d ≤ nI d := nI_le (by omega) (by omega)
    exact ⟨(zs (pc (thN n V)) z d, Int64.ofInt (sm (dT n R B V z k0 g) d), nI d, M1), by simp only [p_Md_drawn_L77, k1, ↓reduceIte], rfl, hx⟩
end PS
theorem g_drawn : Gd_drawn Inv := by
  intro M1 M2 ⟨n, N, R, B, V, W, C, T⟩ a1 a2 a3 a4
  have hb := W.2.1
  have T1 : RT V (wF M2 0 0 0) := T.sF (Or.inl rfl)
  have z1 : (wF M2 0 0 0).1 0 0 = 0 := wF_at
  have le20 : a3 ≤ (20 : Int32) ↔ ¬ (20 : Int32) < a3 := by rw [Int32.lt_iff_toInt_lt, Int32.le_iff_toInt_le]; omega
  have bad : (p_ES_drawn a1 a2 a3 a4 M1 = some (some (-1000000000000), M1) ∧ p_Md_drawn a1 a2 a3 a4 M2 = some (-1000000000000, wF M2 0 0 0)) ∨ (inb a1 n = true ∧ (¬ a3 < 1 ∧ ¬ (20 : Int32) < a3) ∧ isP a4 = true) := by
    by_cases ca : inb a1 n = true
    · by_cases cm : ¬ a3 < 1 ∧ ¬ (20 : Int32) < a3
      · by_cases cp : isP a4 = true
        · exact Or.inr ⟨ca, cm, cp⟩
        · left; refine ⟨?_, ?_⟩
          · unfold p_ES_drawn; rw [bnd_e (e_isCol W C), if_pos ca, if_neg one_ne, bnd_e e_isPart, if_neg cp, if_pos rfl]
          · unfold p_Md_drawn; rw [nm_s, bnd_e (e_mdCol W T1), if_pos ca, if_neg one_ne, bnd_e e_in, if_pos cm, if_neg one_ne, bnd_e e_inP, if_neg cp, if_pos rfl]
      · left; refine ⟨?_, ?_⟩
        · unfold p_ES_drawn; rw [bnd_e (e_isCol W C), if_pos ca, if_neg one_ne, bnd_e e_isPart]
          by_cases cp : isP a4 = true
          · rw [if_pos cp, if_neg one_ne]
            by_cases c1 : a3 < 1
            · rw [if_pos c1]
            · rw [if_neg c1, if_neg (fun q => cm ⟨c1, le20.mp q⟩)]
          · rw [if_neg cp, if_pos rfl]
        · unfold p_Md_drawn; rw [nm_s, bnd_e (e_mdCol W T1), if_pos ca, if_neg one_ne, bnd_e e_in, if_neg cm, if_pos rfl]
    · left; refine ⟨?_, ?_⟩
      · unfold p_ES_drawn; rw [bnd_e (e_isCol W C), if_neg ca, if_pos rfl]
      · unfold p_Md_drawn; rw [nm_s, bnd_e (e_mdCol W T1), if_neg ca, if_pos rfl]
  rcases bad with ⟨b1, b2⟩ | ⟨ca, cm, cp⟩
  · exact Or.inl ⟨_, _, _, b1, b2, z1, n, N, R, B, V, W, C, T1⟩
  obtain ⟨d, hd0, hd, rfl⟩ : ∃ d : Nat, 1 ≤ d ∧ d ≤ 20 ∧ a3 = nI d := by
    have h1 := cm.1
    have h2 := cm.2
    rw [Int32.lt_iff_toInt_lt, show (1 : Int32).toInt = 1 from rfl] at h1
    rw [Int32.lt_iff_toInt_lt, show (20 : Int32).toInt = 20 from rfl] at h2
    refine ⟨a3.toInt.toNat, by omega, by omega, Int32.toInt_inj.mp ?_⟩
    rw [nI_toInt (by omega)]; omega
  obtain ⟨g1, g2, g3, g4⟩ := grp W ca
  have eoc := e_ofCol W C ca
  have t8 : ∀ {M' : Mem}, RT V M' → M'.1 8 a1.toNatClampNeg = nI (gr V a1.toNatClampNeg) := fun T' => by rw [T'.1 8 (by omega) (by omega)]; exact g2
  generalize gr V a1.toNatClampNeg = g at g1 g2 g3 eoc t8
  obtain ⟨t1, t2, t3⟩ := el_t _ (thN_lt W) g g1 g3
  obtain ⟨k0, hk0⟩ := od_k0 (z := a2) t2
  obtain ⟨Mc, ec, xc⟩ := e_drawnSum W C g1 g3 hd hk0
  have Cc := C.d hb.2.2.2.2 xc
  have hcnt : Mc.1 9 2 = nI B := Cc.1.2.2.2.2.2.trans W.1.2.2.2
  obtain ⟨M3, e3, T3, z3, k3, k3'⟩ := e_thr W T1
  have eB : Int32.toInt64 (nI B) = Int64.ofInt (B : Int) := toL_nI (by omega)
  have eD : Int32.toInt64 (nI d) = Int64.ofInt (d : Int) := toL_nI (by omega)
  have sb := dT_bd W (z := a2) (k0 := k0) (g := g) hd
  have pre : p_ES_drawn a1 a2 (nI d) a4 M1 = bnd (p_ES_told (Int64.ofInt (sm (dT n R B V a2 k0 g) d)) (Int64.ofInt ((d * B : Nat) : Int)) a4 Mc) (fun q11 => match q11 with
          | none => some (none, Mc)
          | some q11v => some (some q11v, Mc)) := by
    unfold p_ES_drawn
    rw [bnd_e (e_isCol W C), if_pos ca, if_neg one_ne, bnd_e e_isPart, if_pos cp, if_neg one_ne, if_neg cm.1, if_pos (le20.mpr cm.2), bnd_e eoc, bnd_e ec]
    dsimp only
    simp only [p_Rw_count, bnd_s, hcnt, eB, eD, ← Int64.ofInt_mul, ← Int.natCast_mul]
    generalize p_ES_told _ _ _ _ = z
    cases z with
    | none => rfl
    | some y => cases y <;> rfl
  by_cases c0 : B = 0
  · right
    rw [if_pos c0] at e3 z3
    refine ⟨0, Mc, M3, ?_, ?_, z3, n, N, R, B, V, W, Cc, T3⟩
    · rw [pre, c0, Nat.mul_zero, show Int64.ofInt ((0 : Nat) : Int) = 0 by decide, bnd_e told_none]
    · unfold p_Md_drawn
      rw [nm_s, bnd_e (e_mdCol W T1), if_pos ca, if_neg one_ne, bnd_e e_in, if_pos cm, if_neg one_ne, bnd_e e_inP, if_pos cp, if_neg one_ne, bnd_e e3, if_neg one_ne]
  · left
    rw [if_neg c0] at e3 z3
    obtain ⟨M4, e4, x4, t4⟩ := e_sumAll W T3
    have T4 := T3.x x4
    have egb := e_groupBits W T4 g1
    have z4 : M4.1 0 0 = 0 := by rw [x4.1 0 (by omega)]; exact z3
    obtain ⟨M5, e5, x5, a17, a13⟩ := e_list0 W T4
    have T5 := T4.o x5
    obtain ⟨q, e6, q1, x6⟩ := e_mdDrawn W T5 (fun j hj => by rw [x5.1]; exact t4 j hj) g1 g3 hd hk0 a17 a13
    have T6 := T5.o x6
    have hdB : d * B ≤ 20 * 5 := Nat.mul_le_mul hd hb.2.2.2.2
    obtain ⟨v, v1, v2⟩ := told_part (a := sm (dT n R B V a2 k0 g) d) (b := d * B) (pt := a4) (M := Mc) (M' := q.2.2.2) (by omega) (by omega) (Nat.mul_pos hd0 (by omega)) (by omega)
    refine ⟨v, Mc, q.2.2.2, ?_, ?_, ?_, n, N, R, B, V, W, Cc, T6⟩
    · rw [pre, bnd_e v1]
    · unfold p_Md_drawn
      rw [nm_s, bnd_e (e_mdCol W T1), if_pos ca, if_neg one_ne, bnd_e e_in, if_pos cm, if_neg one_ne, bnd_e e_inP, if_pos cp, if_neg one_ne, bnd_e e3]
      dsimp only
      rw [if_pos rfl, bnd_e e4, chk_t (inb_mono ca (by omega)), t8 T4, bnd_e egb, bnd_e e5, bnd_e e6, q1, T6.2.2.2.2, W.1.2.2.2, eB, eD, ← Int64.ofInt_mul, ← Int.natCast_mul, Nat.mul_comm B, bnd_e v2]
    · rw [x6.2.2 0 (by omega), x5.2.2 0 (by omega)]; exact z4
