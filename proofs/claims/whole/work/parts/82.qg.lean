section PS
variable {n N R B : Nat} {V : Vw} {M : Mem} {w : Int}
/-- what a round of the loop leaves -/
def Rnd (n N R B : Nat) (V : Vw) (w : Int) (f : Nat → Nat) (t : Int32) (c : Nat) (M : Mem) : Prop := RT V M ∧ ((c = n ∧ Hst n R B V w (fun _ => True) t M) ∨ (c < n ∧ ∃ f' : Nat → Nat, (∀ c, c < n → M.1 16 c = nI (f' c) ∧ vd B V c (f' c)) ∧ num f n < num f' n ∧ Hst n R B V w (Sf n B V f') t M))
set_option maxHeartbeats 4000000 in
set_option maxRecDepth 100000 in
theorem e_tail (W : WF n N R B V) (T : RT V M) {f : Nat → Nat} (hf : ∀ c, c < n → M.1 16 c = nI (f c) ∧ vd B V c (f c)) {t : Int32} (hh : Hst n R B V w (fun y => Sf n B V f y ∨ eqn n y (rw0 V f)) t M) :
    ∃ (c c2 : Nat) (M' M2 : Mem), itr zfu (fun s => p_Md_findNearest_L105 s.1 s.2) ((0 : Int32), M) = some (nI c, M') ∧ c ≤ n ∧ M'.1 0 1 = nI n ∧ ((c = n ∧ Rnd n N R B V w f t n M') ∨ (c < n ∧ ∃ r, p_Md_next (nI c) M' = some (nI r) ∧ Rnd n N R B V w f t c (wI M' 16 (nI c) (nI r)))) := by
  have hb := W.2.1
  obtain ⟨c, M', e1, x1, h1, h2, h3, h4, h5⟩ := e_adv W T (fun c hc => ⟨(hf c hc).1, (hf c hc).2.1⟩)
  have T1 := T.a x1
  refine ⟨c, 0, M', M', e1, h1, T1.2.1.trans W.1.1, ?_⟩
  by_cases e : c = n
  · refine Or.inl ⟨e, T1, Or.inl ⟨rfl, hh.im (fun y _ hc _ => ?_) (by rw [x1.2 0 (by omega)]) (by rw [x1.2 0 (by omega)]) (fun c _ => by rw [x1.2 17 (by omega)])⟩⟩
    obtain ⟨g, hg⟩ := cand_g hc
    rcases top_le (c := n) (g := g) (f := f) (fun j hj => Nat.le_of_not_lt (fun k => h4 j (by omega) _ k (hg j hj).1)) with q | q
    · exact Or.inr (fun j hj => by rw [(hg j hj).2, q j hj]; rfl)
    · exact Or.inl ⟨g, hg, q⟩
  · obtain ⟨r, r1, r2, r3, r4⟩ := h5 (by omega)
    obtain ⟨f', hf'⟩ : ∃ f' : Nat → Nat, ∀ j, f' j = if j < c then 0 else if j = c then r else f j := ⟨fun j => if j < c then 0 else if j = c then r else f j, fun _ => rfl⟩
    refine Or.inr ⟨by omega, r, r1, T1.sI (by omega), Or.inr ⟨by omega, f', fun j hj => ?_, ?_, hh.im (fun y hy hc _ => ?_) ?_ ?_ ?_⟩⟩
    · rw [wI_at (by omega), hf']
      by_cases q1 : j < c
      · rw [if_pos q1, if_neg (by omega)]; exact ⟨h2 j q1, by omega, Or.inl rfl, fun q hq => by omega⟩
      · rw [if_neg q1]
        by_cases q2 : j = c
        · rw [if_pos q2, if_pos q2, q2]; exact ⟨rfl, r3⟩
        · rw [if_neg q2, if_neg q2]; exact ⟨h3 j (by omega) hj, (hf j hj).2⟩
    · refine num_adv (c := c) (fun j hj => by have := (hf j (by omega)).2.1; omega) ?_ (by omega) (fun j a b => ?_)
      · rw [hf', if_neg (by omega), if_pos rfl]; exact r2
      · rw [hf', if_neg (by omega), if_neg (by omega)]
    · obtain ⟨g, hg, hl⟩ := hy
      rcases adv_sub (f := f) (f' := f') (c := c) (r := r) (by omega) (fun j hj => (hg j hj).1) (fun j hj => by rw [hf', if_pos hj]) (by rw [hf', if_neg (by omega), if_pos rfl]) (fun j a b => by rw [hf', if_neg (by omega), if_neg (by omega)]) h4 r4 hl with q | q
      · exact Or.inl ⟨g, hg, q⟩
      · exact Or.inr (fun j hj => by rw [(hg j hj).2, q j hj]; rfl)
    · rw [wI_ne (by omega : 0 ≠ 16), x1.2 0 (by omega)]
    · rw [wI_ne (by omega : 0 ≠ 16), x1.2 0 (by omega)]
    · intro c _; rw [wI_ne (by omega : 17 ≠ 16), x1.2 17 (by omega)]
set_option maxHeartbeats 4000000 in
set_option maxRecDepth 100000 in
theorem e_round (W : WF n N R B V) (T : RT V M) {f : Nat → Nat} (hf : ∀ c, c < n → M.1 16 c = nI (f c) ∧ vd B V c (f c)) {t : Int32} {g : Int32} {c0 : Nat} (hc0 : c0 < n) (hh : Hst n R B V g.toInt (Sf n B V f) t M) : ∃ (t' : Int32) (c : Nat) (M' : Mem), p_Md_findNearest_L27 g t (nI c0) M = some (.inl (t', nI c, M')) ∧ Rnd n N R B V g.toInt f t' c M' := by
  have hb := W.2.1
  have kn : M.1 0 1 = nI n := T.2.1.trans W.1.1
  have k1 : ¬ nI n ≤ nI c0 := nI_ge (by omega) (by omega)
  have cx : cand n B V (rw0 V f) := fun c hc => vd_ch (hf c hc).2
  obtain ⟨⟨u, M1⟩, e1, x1, h11⟩ := e_now W T (fun c hc => ⟨(hf c hc).1, (hf c hc).2.1⟩)
  dsimp only at x1 h11
  have T1 : RT V M1 := T.of (fun k a b => x1.2 k (by omega)) (fun j _ => by rw [x1.2 0 (by omega)])
  have f1 : ∀ c, c < n → M1.1 16 c = nI (f c) ∧ vd B V c (f c) := fun c hc => by rw [x1.2 16 (by omega)]; exact hf c hc
  have ea := e_answerNow W T1 h11 (fun c hc => ch_bd W (by omega) (cx c hc))
  have ab : -16000 ≤ ans R V (rw0 V f) ∧ ans R V (rw0 V f) ≤ 16000 := by
    have := ans_bound W (row := fun c => if c < n then rw0 V f c else 0) (fun c hc => by
      by_cases e : c < n
      · rw [if_pos e]; exact ch_bd W hc (cx c e)
      · rw [if_neg e]; decide)
    rwa [ans_congr W (row := fun c => if c < n then rw0 V f c else 0) (row' := rw0 V f) (fun c hc => if_pos hc)] at this
  have g1 := Int32.toInt_lt g
  have g2 := Int32.le_toInt g
  have hcmp := cmpI (a := ans R V (rw0 V f)) (b := g.toInt) (by omega) (by omega) (by omega) (by omega)
  have h1 : Hst n R B V g.toInt (Sf n B V f) t M1 := hh.im (fun y hy _ _ => hy) (by rw [x1.2 0 (by omega)]) (by rw [x1.2 0 (by omega)]) (fun c _ => by rw [x1.2 17 (by omega)])
  have neg1 : (-1 : Int32) < 0 := by decide
  have n10 : ¬ (1 : Int32) < 0 := by decide
  unfold p_Md_findNearest_L27
  rw [kn, if_neg k1, bnd_e e1]
  dsimp only
  rw [bnd_e ea, toL_in, hcmp]
  by_cases hF : g.toInt ≤ ans R V (rw0 V f)
  · have cnd : ¬ (if g.toInt < ans R V (rw0 V f) then (1 : Int32) else if ans R V (rw0 V f) = g.toInt then 0 else -1) < 0 := by
      by_cases q : g.toInt < ans R V (rw0 V f)
      · rw [if_pos q]; exact n10
      · rw [if_neg q, if_pos (by omega)]; exact z_00
    rw [if_neg cnd]
    rcases h1 with ⟨rfl, h1⟩ | ⟨rfl, h1⟩
    · obtain ⟨M2, e2, x2, h2⟩ := e_hold1 W T1 cx hF h11 h1
      have T2 := T1.h x2
      obtain ⟨c, _, M3, _, e3, c1, n3, h3⟩ := e_tail W T2 (fun c hc => by rw [x2.2.1 16 (by omega) (by omega)]; exact f1 c hc) h2
      rw [if_pos rfl, bnd_e e2, bnd_e e3]
      dsimp only
      rw [n3]
      rcases h3 with ⟨h3, h4⟩ | ⟨h3, r, h4, h5⟩
      · rw [if_pos (nI_le (by omega) (by omega)), h3]
        exact ⟨1, n, M3, rfl, h4⟩
      · rw [if_neg (nI_ge (by omega) (by omega)), bnd_e h4, chk_t (inb_nI (by omega) (by omega)), nm_s]
        exact ⟨1, c, _, rfl, h5⟩
    · obtain ⟨M2, e2, x2, h2⟩ := e_hold0 W T1 cx hF h11 (Or.inr ⟨rfl, h1⟩)
      have T2 := T1.h x2
      obtain ⟨c, _, M3, _, e3, c1, n3, h3⟩ := e_tail W T2 (fun c hc => by rw [x2.2.1 16 (by omega) (by omega)]; exact f1 c hc) h2
      rw [if_neg one_ne, bnd_e e2, bnd_e e3]
      dsimp only
      rw [n3]
      rcases h3 with ⟨h3, h4⟩ | ⟨h3, r, h4, h5⟩
      · rw [if_pos (nI_le (by omega) (by omega)), h3]
        exact ⟨1, n, M3, rfl, h4⟩
      · rw [if_neg (nI_ge (by omega) (by omega)), bnd_e h4, chk_t (inb_nI (by omega) (by omega)), nm_s]
        exact ⟨1, c, _, rfl, h5⟩
  · have cnd : (if g.toInt < ans R V (rw0 V f) then (1 : Int32) else if ans R V (rw0 V f) = g.toInt then 0 else -1) < 0 := by
      rw [if_neg (by omega), if_neg (by omega)]; exact neg1
    rw [if_pos cnd]
    have h2 : Hst n R B V g.toInt (fun y => Sf n B V f y ∨ eqn n y (rw0 V f)) t M1 := h1.im (fun y hy _ hfy => hy.elim id (fun hy => absurd (by rw [← ans_congr W hy]; exact hfy) hF)) rfl rfl (fun _ _ => rfl)
    obtain ⟨c, _, M3, _, e3, c1, n3, h3⟩ := e_tail W T1 f1 h2
    rw [bnd_e e3]
    dsimp only
    rw [n3]
    rcases h3 with ⟨h3, h4⟩ | ⟨h3, r, h4, h5⟩
    · rw [if_pos (nI_le (by omega) (by omega)), h3]
      exact ⟨t, n, M3, rfl, h4⟩
    · rw [if_neg (nI_ge (by omega) (by omega)), bnd_e h4, chk_t (inb_nI (by omega) (by omega)), nm_s]
      exact ⟨t, c, _, rfl, h5⟩
set_option maxHeartbeats 4000000 in
set_option maxRecDepth 100000 in
theorem e_findNearest (W : WF n N R B V) (T : RT V M) (g : Int32) : ∃ t M', p_Md_findNearest g M = some (t, M') ∧ RT V M' ∧ Hst n R B V g.toInt (fun _ => True) t M' := by
  have hb := W.2.1
  have hp6 := pow6 hb.2.1
  have hq : ∃ q : Int32 × Mem, itr zfu (fun s => p_Md_findNearest_L2 s.1 s.2) ((0 : Int32), M) = some q ∧ RT V q.2 ∧ ∀ c, c < n → q.2.1 16 c = nI 0 := by
    refine itr_run (σ := Int32 × Mem) (ρ := Int32 × Mem) (fun i s => s.1 = nI i ∧ RT V s.2 ∧ ∀ c, c < i → s.2.1 16 c = nI 0) (fun q => RT V q.2 ∧ ∀ c, c < n → q.2.1 16 c = nI 0) n (zfu_gt (by omega)) ⟨rfl, T, fun c hc => by omega⟩ (fun i s hi hp => ?_) (fun s hp => ?_)
    · obtain ⟨u, M1⟩ := s
      obtain ⟨rfl, T1, hk⟩ := hp
      dsimp only at T1 hk
      have kn : M1.1 0 1 = nI n := T1.2.1.trans W.1.1
      have k1 : ¬ nI n ≤ nI i := nI_ge (by omega) (by omega)
      have k2 : inb (nI i) 6 = true := inb_nI (by omega) (by omega)
      refine ⟨.inl (nI (i + 1), wI M1 16 (nI i) 0), by simp only [p_Md_findNearest_L2, kn, k1, k2, chk_true, nm_s, nI_1, ↓reduceIte], rfl, T1.sI (by omega), fun c hc => ?_⟩
      dsimp only
      rw [wI_at (by omega)]
      by_cases q : c = i
      · rw [if_pos q]; rfl
      · rw [if_neg q]; exact hk c (by omega)
    · obtain ⟨u, M1⟩ := s
      obtain ⟨rfl, T1, hk⟩ := hp
      dsimp only at T1 hk
      have kn : M1.1 0 1 = nI n := T1.2.1.trans W.1.1
      have k1 : nI n ≤ nI n := nI_le (by omega) (by omega)
      exact ⟨(nI n, M1), by simp only [p_Md_findNearest_L2, kn, k1, ↓reduceIte], T1, hk⟩
  obtain ⟨⟨u, M1⟩, e1, T1, h16⟩ := hq
  dsimp only at T1 h16
  have hr : ∃ q : Int32 × Int32 × Mem, itr zfu (fun s => p_Md_findNearest_L27 g s.1 s.2.1 s.2.2) ((0 : Int32), (0 : Int32), M1) = some q ∧ RT V q.2.2 ∧ Hst n R B V g.toInt (fun _ => True) q.1 q.2.2 := by
    refine itr_run (σ := Int32 × Int32 × Mem) (ρ := Int32 × Int32 × Mem) (fun i s => RT V s.2.2 ∧ ((s.2.1 = nI n ∧ Hst n R B V g.toInt (fun _ => True) s.1 s.2.2) ∨ ∃ c, c < n ∧ s.2.1 = nI c ∧ ∃ f : Nat → Nat, (∀ c, c < n → s.2.2.1 16 c = nI (f c) ∧ vd B V c (f c)) ∧ i ≤ num f n ∧ Hst n R B V g.toInt (Sf n B V f) s.1 s.2.2)) (fun q => RT V q.2.2 ∧ Hst n R B V g.toInt (fun _ => True) q.1 q.2.2) 46657 (zfu_gt (by omega)) ⟨T1, Or.inr ⟨0, by omega, rfl, fun _ => 0, fun c hc => ⟨h16 c hc, Nat.zero_le _, Or.inl rfl, fun q hq => absurd hq (Nat.not_lt_zero q)⟩, Nat.zero_le _, Or.inl ⟨rfl, fun y ⟨k, _, c, _, h, _⟩ => absurd h (Nat.not_lt_zero _)⟩⟩⟩ (fun i s hi hp => ?_) (fun s hp => ?_)
    · obtain ⟨t, v, M2⟩ := s
      obtain ⟨T2, hp⟩ := hp
      dsimp only at T2 hp
      rcases hp with ⟨rfl, hp⟩ | ⟨c, hc, rfl, f, hf, hn, hp⟩
      · have kn : M2.1 0 1 = nI n := T2.2.1.trans W.1.1
        have k1 : nI n ≤ nI n := nI_le (by omega) (by omega)
        exact ⟨.inr (t, nI n, M2), by simp only [p_Md_findNearest_L27, kn, k1, ↓reduceIte], T2, hp⟩
      · obtain ⟨t', c', M3, e3, T3, h3⟩ := e_round W T2 hf hc hp
        refine ⟨.inl (t', nI c', M3), e3, T3, ?_⟩
        rcases h3 with ⟨rfl, h3⟩ | ⟨h3, f', h4, h5, h6⟩
        · exact Or.inl ⟨rfl, h3⟩
        · exact Or.inr ⟨c', h3, rfl, f', h4, by omega, h6⟩
    · obtain ⟨t, v, M2⟩ := s
      obtain ⟨T2, hp⟩ := hp
      dsimp only at T2 hp
      rcases hp with ⟨rfl, hp⟩ | ⟨c, hc, rfl, f, hf, hn, hp⟩
      · have kn : M2.1 0 1 = nI n := T2.2.1.trans W.1.1
        have k1 : nI n ≤ nI n := nI_le (by omega) (by omega)
        exact ⟨(t, nI n, M2), by simp only [p_Md_findNearest_L27, kn, k1, ↓reduceIte], T2, hp⟩
      · have := num_lt (f := f) (c := n) (fun j hj => by have := (hf j hj).2.1; omega)
        omega
  obtain ⟨⟨t, v, M2⟩, e2, T2, h2⟩ := hr
  dsimp only at T2 h2
  refine ⟨t, M2, ?_, T2, h2⟩
  have zb : zbl t = true := by
    rcases h2 with ⟨rfl, _⟩ | ⟨rfl, _⟩ <;> decide
  unfold p_Md_findNearest
  rw [bnd_e e1, bnd_e e2, chk_t zb]
set_option maxHeartbeats 4000000 in
set_option maxRecDepth 100000 in
theorem both_find (W : WF n N R B V) {M1 M2 : Mem} (C : RC N R B V M1) (T : RT V M2) (g : Int32) : ∃ (t : Int32) (N1 N2 : Mem), p_Se_find g M1 = some (t, N1) ∧ p_Md_findNearest g M2 = some (t, N2) ∧ RC N R B V N1 ∧ RT V N2 ∧ (t = 0 ∨ (t = 1 ∧ N1.1 24 9 / 10000 = N2.1 0 23 ∧ ∀ c, c < n → N1.1 36 c = N2.1 17 c)) := by
  have hb := W.2.1
  obtain ⟨r, N1, e1, C1, h1⟩ := e_find W C g
  obtain ⟨t, N2, e2, T2, h2⟩ := e_findNearest W T g
  rcases h1 with ⟨rfl, h1⟩ | ⟨rfl, x, h1, a9, a36⟩
  · rcases h2 with ⟨rfl, h2⟩ | ⟨rfl, y, h2, _⟩
    · exact ⟨0, N1, N2, e1, e2, C1, T2, Or.inl rfl⟩
    · exact absurd h2.2.1 (h1 y trivial h2.1)
  · rcases h2 with ⟨rfl, h2⟩ | ⟨rfl, y, h2, b23, b24, b17⟩
    · exact absurd h1.2.1 (h2 x trivial h1.1)
    · refine ⟨1, N1, N2, e1, e2, C1, T2, Or.inr ⟨rfl, ?_, fun c hc => ?_⟩⟩
      · have hu := Bst_u h1 h2 trivial trivial
        have hx := cst_bd W (x := x) (k := n) (by omega) h1.1
        have c1 := @cst_ds V y n
        have s1 := dsn_bd W (x := y) (k := n) (by omega) h2.1
        rw [cst_cg hu] at hx a9
        rw [a9, b23, show (10000 : Int32) = nI 10000 from rfl, nI_div (by omega) (by omega) (by omega)]
        congr 1
        omega
      · rw [a36 c hc, b17 c hc]; exact Bst_u h1 h2 trivial trivial c hc
end PS
set_option maxHeartbeats 4000000 in
set_option maxRecDepth 100000 in
theorem g_nearest : Gd_nearest Inv := by
  intro M1 M2 ⟨n, N, R, B, V, W, C, T⟩ a1
  have T1 : RT V (wF M2 0 0 0) := T.sF (Or.inl rfl)
  obtain ⟨t, N1, N2, e1, e2, C1, T2, h⟩ := both_find W C T1 a1
  have d0 : decide (¬ (10000 : Int32) = 0) = true := by decide
  rcases h with rfl | ⟨rfl, h1, h2⟩
  · refine ⟨-3, N1, N2, ?_, ?_, n, N, R, B, V, W, C1, T2⟩
    · unfold p_ES_nearest; rw [bnd_e e1, if_pos rfl]
    · unfold p_Md_nearest; rw [nm_s, bnd_e e2, if_pos rfl]
  · refine ⟨N2.1 0 23, N1, N2, ?_, ?_, n, N, R, B, V, W, C1, T2⟩
    · unfold p_ES_nearest
      rw [bnd_e e1, if_neg one_ne]
      unfold p_Se_differing
      rw [chk_t d0, bnd_s, h1]
    · unfold p_Md_nearest; rw [nm_s, bnd_e e2, if_neg one_ne]
set_option maxHeartbeats 4000000 in
set_option maxRecDepth 100000 in
theorem g_nearestAt : Gd_nearestAt Inv := by
  intro M1 M2 ⟨n, N, R, B, V, W, C, T⟩ a1 a2
  have hb := W.2.1
  have T1 : RT V (wF M2 0 0 0) := T.sF (Or.inl rfl)
  by_cases ca : inb a2 n = true
  · obtain ⟨t, N1, N2, e1, e2, C1, T2, h⟩ := both_find W C T1 a1
    rcases h with rfl | ⟨rfl, h1, h2⟩
    · refine ⟨-1000000000000, N1, N2, ?_, ?_, n, N, R, B, V, W, C1, T2⟩
      · unfold p_ES_nearestAt; rw [bnd_e (e_isCol W C), if_pos ca, if_neg one_ne, bnd_e e1, if_pos rfl]
      · unfold p_Md_nearestAt; rw [nm_s, bnd_e (e_mdCol W T1), if_pos ca, if_neg one_ne, bnd_e e2, if_pos rfl]
    · have i6 := inb_mono ca hb.2.1
      have eq := h2 _ (inb_eq ca).2
      refine ⟨Int32.toInt64 (N2.1 17 (Int32.toNatClampNeg a2)), N1, N2, ?_, ?_, n, N, R, B, V, W, C1, T2⟩
      · unfold p_ES_nearestAt
        rw [bnd_e (e_isCol W C), if_pos ca, if_neg one_ne, bnd_e e1, if_neg one_ne]
        unfold p_Se_foundIn
        rw [chk_t i6, bnd_s, eq]
      · unfold p_Md_nearestAt; rw [nm_s, bnd_e (e_mdCol W T1), if_pos ca, if_neg one_ne, bnd_e e2, if_neg one_ne, chk_t i6]
  · refine ⟨-1000000000000, M1, wF M2 0 0 0, ?_, ?_, n, N, R, B, V, W, C, T1⟩
    · unfold p_ES_nearestAt; rw [bnd_e (e_isCol W C), if_neg ca, if_pos rfl]
    · unfold p_Md_nearestAt; rw [nm_s, bnd_e (e_mdCol W T1), if_neg ca, if_pos rfl]
set_option maxHeartbeats 4000000 in
set_option maxRecDepth 100000 in
theorem good_inv : Good Inv := ⟨g_leaf, g_split, g_root, g_weight, g_clear, g_background, g_item, g_group, g_answer, g_value, g_share, g_both, g_drawn, g_partial, g_worth, g_rank, g_bar, g_nearest, g_nearestAt⟩
