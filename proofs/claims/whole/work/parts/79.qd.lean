section PS
variable {n N R B : Nat} {V : Vw} {M M0 : Mem} {ln : Nat → Nat} {w : Int}
set_option maxHeartbeats 4000000 in
set_option maxRecDepth 100000 in
theorem settle_ok (W : WF n N R B V) (C0 : RC N R B V M0) (H : HL n B V M0 ln) {g : Int32} {rc : Int32 → Int32 → Mem → Option Mem} {a : Nat} {p : Nat → Int32} {S : (Nat → Int32) → Prop} (ha : a < n) (hp : ∀ c, c < a → ch B V c (p c)) (hS : ∀ y z, S y → eqn a z p → lx n y z) (hM : BxS n M0 ln a a p M) (hst : Stt n R B V g.toInt S M)
    (hrc : ∀ (p' : Nat → Int32) (S' : (Nat → Int32) → Prop) (M1 : Mem), (∀ c, c < a + 1 → ch B V c (p' c)) → (∀ y z, S' y → eqn (a + 1) z p' → lx n y z) → BxS n M0 ln (a + 1) (a + 1) p' M1 → Stt n R B V g.toInt S' M1 → ∃ M', rc (nI (a + 1)) (nI (cst V p' (a + 1))) M1 = some M' ∧ BxS n M0 ln (a + 1) (a + 1) p' M' ∧ Stt n R B V g.toInt (fun y => S' y ∨ eqn (a + 1) y p') M') :
    ∃ M', p_Se_settle rc (nI a) (nI (cst V p a)) M = some M' ∧ BxS n M0 ln a a p M' ∧ Stt n R B V g.toInt (fun y => S y ∨ eqn a y p) M' := by
  have hb := W.2.1
  have ka := nI_clamp (show a < 2 ^ 31 by omega)
  have ia : inb (nI a) 6 = true := inb_nI (by omega) (by omega)
  have al := al27 a (by omega)
  obtain ⟨l1, l2, l3, l4, l5⟩ := H a ha
  have hq : ∃ q : Int32 × Mem, itr zfu (fun s => p_Se_settle_L2 rc (nI a) (nI (cst V p a)) s.1 s.2) ((0 : Int32), M) = some q ∧ BxS n M0 ln a (a + 1) p q.2 ∧ Stt n R B V g.toInt (fun y => S y ∨ (eqn a y p ∧ ∃ j, j < ln a ∧ y a = M0.1 (27 + a) j)) q.2 := by
    refine itr_run (σ := Int32 × Mem) (ρ := Int32 × Mem) (fun i s => s.1 = nI i ∧ BxS n M0 ln a (a + 1) p s.2 ∧ Stt n R B V g.toInt (fun y => S y ∨ (eqn a y p ∧ ∃ j, j < i ∧ y a = M0.1 (27 + a) j)) s.2) (fun q => BxS n M0 ln a (a + 1) p q.2 ∧ Stt n R B V g.toInt (fun y => S y ∨ (eqn a y p ∧ ∃ j, j < ln a ∧ y a = M0.1 (27 + a) j)) q.2) (ln a) (zfu_gt (by omega)) ⟨rfl, ⟨hM.1, hM.2.1, fun c h1 h2 => hM.2.2 c (by omega) h2⟩, hst.im (fun y hy _ _ => hy.elim id (fun ⟨_, j, hj, _⟩ => by omega)) (fun y hy => Or.inl hy) rfl (fun _ _ => rfl)⟩ (fun i s hi hq => ?_) (fun s hq => ?_)
    · obtain ⟨x, M1⟩ := s
      obtain ⟨rfl, hx, ht⟩ := hq
      dsimp only at hx ht
      have k0 : M1.1 33 a = nI (ln a) := by rw [hx.1.2.1 33 (by omega) (by omega) (by omega) (by omega) (by omega)]; exact l3
      have k1 : ¬ nI (ln a) ≤ nI i := nI_ge (by omega) (by omega)
      have k2 : inb (nI i) 6 = true := inb_nI (by omega) (by omega)
      have k3 : M1.1 (27 + a) = M0.1 (27 + a) := hx.1.2.1 (27 + a) (by omega) (by omega) (by omega) (by omega) (by omega)
      have hv : ch B V a (M0.1 (27 + a) i) := lst_in H ha hi
      have ki := nI_clamp (show i < 2 ^ 31 by omega)
      generalize hvv : M0.1 (27 + a) i = v at *
      have x2 : XV M0 (wI (wI M1 34 (nI a) v) 35 (nI a) v) := (hx.1.w (Or.inl rfl)).w (Or.inr (Or.inl rfl))
      have C2 := C0.v hb.2.2.2.2 x2
      have ec := e_costOf W C2 (show a < 6 by omega) hv
      have a34 : ∀ c, (wI (wI M1 34 (nI a) v) 35 (nI a) v).1 34 c = if c = a then v else M1.1 34 c := fun c => by rw [wI_ne (by omega : 34 ≠ 35), wI_at (by omega)]
      have a35 : ∀ c, (wI (wI M1 34 (nI a) v) 35 (nI a) v).1 35 c = if c = a then v else M1.1 35 c := fun c => by rw [wI_at (by omega), wI_ne (by omega : 35 ≠ 34)]
      have ecs : cst V (fun c => if c = a then v else p c) (a + 1) = cst V p a + ci V a v := by
        simp only [cst, ↓reduceIte]
        rw [cst_cg (V := V) (x := fun c => if c = a then v else p c) (y := p) (k := a) (fun c hc => if_neg (by omega))]
      obtain ⟨M3, e3, b3, s3⟩ := hrc (fun c => if c = a then v else p c) (fun y => S y ∨ (eqn a y p ∧ ∃ j, j < i ∧ y a = M0.1 (27 + a) j)) (wI (wI M1 34 (nI a) v) 35 (nI a) v)
        (fun c hc => by
          show ch B V c (if c = a then v else p c)
          by_cases e : c = a
          · rw [if_pos e, e]; exact hv
          · rw [if_neg e]; exact hp c (by omega))
        (fun y z hy hz => by
          have hz1 : eqn a z p := fun c hc => by
            have := hz c (by omega)
            dsimp only at this
            rwa [if_neg (by omega)] at this
          rcases hy with hy | ⟨hy, j, hj, hya⟩
          · exact hS y z hy hz1
          · refine ⟨a, ha, fun c hc => (hy c hc).trans (hz1 c hc).symm, ?_⟩
            have := hz a (by omega)
            dsimp only at this
            rw [if_pos rfl] at this
            rw [this, hya, ← hvv]
            exact l4 j i hj hi)
        ⟨x2, fun c hc => by
          rw [a34, a35]
          dsimp only
          by_cases e : c = a
          · rw [if_pos e, if_pos e, if_pos e]; exact ⟨rfl, rfl⟩
          · rw [if_neg e, if_neg e, if_neg e]; exact hx.2.1 c (by omega), fun c h1 h2 => by
          rw [a34, a35, if_neg (by omega), if_neg (by omega)]; exact hx.2.2 c h1 h2⟩
        (ht.im (fun y hy _ _ => hy) (fun y hy => hy) (by rw [wI_ne (by omega : 24 ≠ 35), wI_ne (by omega : 24 ≠ 34)]) (fun c _ => by rw [wI_ne (by omega : 36 ≠ 35), wI_ne (by omega : 36 ≠ 34)]))
      rw [ecs] at e3
      refine ⟨.inl (nI (i + 1), M3), ?_, rfl, ⟨b3.1, fun c hc => ?_, fun c h1 h2 => b3.2.2 c h1 h2⟩, s3.im (fun y hy _ _ => ?_) (fun y hy => ?_) rfl (fun _ _ => rfl)⟩
      · simp only [p_Se_settle_L2, ia, chk_true, ka, k0, k1, al, k2, nm_s, ki, k3, hvv, bnd_e ec, nI_1, nI_add, bnd_e e3, ↓reduceIte]
      · have := b3.2.1 c (by omega)
        dsimp only at this
        rwa [if_neg (by omega)] at this
      · rcases hy with hy | ⟨hy, j, hj, hya⟩
        · exact Or.inl (Or.inl hy)
        · by_cases e : j = i
          · refine Or.inr (fun c hc => ?_)
            dsimp only
            by_cases q : c = a
            · rw [if_pos q, q, hya, e]; exact hvv
            · rw [if_neg q]; exact hy c (by omega)
          · exact Or.inl (Or.inr ⟨hy, j, by omega, hya⟩)
      · rcases hy with (hy | ⟨hy, j, hj, hya⟩) | hy
        · exact Or.inl hy
        · exact Or.inr ⟨hy, j, by omega, hya⟩
        · refine Or.inr ⟨fun c hc => ?_, i, by omega, ?_⟩
          · have := hy c (by omega)
            dsimp only at this
            rwa [if_neg (by omega)] at this
          · have := hy a (by omega)
            dsimp only at this
            rw [if_pos rfl] at this
            rw [this]; exact hvv.symm
    · obtain ⟨x, M1⟩ := s
      obtain ⟨rfl, hx, ht⟩ := hq
      dsimp only at hx ht
      have k0 : M1.1 33 a = nI (ln a) := by rw [hx.1.2.1 33 (by omega) (by omega) (by omega) (by omega) (by omega)]; exact l3
      have k1 : nI (ln a) ≤ nI (ln a) := nI_le (by omega) (by omega)
      exact ⟨(nI (ln a), M1), by simp only [p_Se_settle_L2, ia, chk_true, ka, k0, k1, ↓reduceIte], hx, ht⟩
  obtain ⟨q, h1, hx, ht⟩ := hq
  have k0 : q.2.1 33 a = nI (ln a) := by rw [hx.1.2.1 33 (by omega) (by omega) (by omega) (by omega) (by omega)]; exact l3
  have k3 : q.2.1 (27 + a) = M0.1 (27 + a) := hx.1.2.1 (27 + a) (by omega) (by omega) (by omega) (by omega) (by omega)
  have eo := e_open (M := q.2) (show a < 6 by omega) l1 l2 k0
  rw [k3] at eo
  generalize hv0 : M0.1 (27 + a) 0 = v0 at eo
  generalize hv1 : M0.1 (27 + a) (ln a - 1) = v1 at eo
  have a34 : ∀ c, (wI (wI q.2 34 (nI a) v0) 35 (nI a) v1).1 34 c = if c = a then v0 else q.2.1 34 c := fun c => by rw [wI_ne (by omega : 34 ≠ 35), wI_at (by omega)]
  have a35 : ∀ c, (wI (wI q.2 34 (nI a) v0) 35 (nI a) v1).1 35 c = if c = a then v1 else q.2.1 35 c := fun c => by rw [wI_at (by omega), wI_ne (by omega : 35 ≠ 34)]
  refine ⟨wI (wI q.2 34 (nI a) v0) 35 (nI a) v1, ?_, ⟨(hx.1.w (Or.inl rfl)).w (Or.inr (Or.inl rfl)), fun c hc => ?_, fun c h1 h2 => ?_⟩, ht.im (fun y hy hc _ => ?_) (fun y hy => hy.imp id (fun h => h.1)) (by rw [wI_ne (by omega : 24 ≠ 35), wI_ne (by omega : 24 ≠ 34)]) (fun c _ => by rw [wI_ne (by omega : 36 ≠ 35), wI_ne (by omega : 36 ≠ 34)])⟩
  · unfold p_Se_settle
    rw [bnd_e h1, bnd_e eo]
  · rw [a34, a35, if_neg (by omega), if_neg (by omega)]; exact hx.2.1 c hc
  · rw [a34, a35]
    by_cases e : c = a
    · rw [if_pos e, if_pos e, e]; exact ⟨hv0.symm, hv1.symm⟩
    · rw [if_neg e, if_neg e]; exact hx.2.2 c (by omega) h2
  · rcases hy with hy | hy
    · exact Or.inl hy
    · obtain ⟨k, hk, h⟩ := (l5 _).mpr (hc a ha)
      exact Or.inr ⟨hy, k, hk, h.symm⟩
set_option maxHeartbeats 4000000 in
set_option maxRecDepth 100000 in
theorem vs_ok (W : WF n N R B V) (C0 : RC N R B V M0) (H : HL n B V M0 ln) {g : Int32} (hg : M0.1 24 10 = g) : ∀ (e a : Nat), a + e = n → ∀ d, 2 * e + 1 ≤ d → ∀ (p : Nat → Int32) (S : (Nat → Int32) → Prop) (M : Mem), (∀ c, c < a → ch B V c (p c)) → (∀ y z, S y → eqn a z p → lx n y z) → BxS n M0 ln a a p M → Stt n R B V g.toInt S M →
    ∃ M', p_Se_vs d true (nI a) (nI (cst V p a)) M = some M' ∧ BxS n M0 ln a a p M' ∧ Stt n R B V g.toInt (fun y => S y ∨ eqn a y p) M' := by
  intro e
  induction e with
  | zero =>
    intro a ha d hd p S M hp hS hM hst
    obtain ⟨d, rfl⟩ : ∃ m, d = m + 1 := ⟨d - 1, by omega⟩
    exact visit_ok W C0 H hg (by omega) hp hS hM hst (fun h => by omega)
  | succ e ih =>
    intro a ha d hd p S M hp hS hM hst
    obtain ⟨d, rfl⟩ : ∃ m, d = m + 2 := ⟨d - 2, by omega⟩
    refine visit_ok W C0 H hg (by omega) hp hS hM hst (fun h M1 hM1 hs1 => ?_)
    exact settle_ok W C0 H (by omega) hp hS hM1 hs1 (fun p' S' M2 a1 a2 a3 a4 => ih (a + 1) (by omega) d (by omega) p' S' M2 a1 a2 a3 a4)
def XF (M M' : Mem) : Prop := M'.2 = M.2 ∧ ∀ k, k ≠ 6 → k ≠ 24 → ¬ (27 ≤ k ∧ k ≤ 36) → M'.1 k = M.1 k
set_option maxHeartbeats 4000000 in
set_option maxRecDepth 100000 in
theorem e_find13 (W : WF n N R B V) (C : RC N R B V M) : ∃ q : Int32 × Mem, itr zfu (fun s => p_Se_find_L13 s.1 s.2) ((0 : Int32), M) = some q ∧ (q.2.2 = M.2 ∧ ∀ k, ¬ (27 ≤ k ∧ k ≤ 35) → q.2.1 k = M.1 k) ∧ ∀ c, c < n → Lst B V q.2 c ∧ opn q.2 c := by
  have hb := W.2.1
  refine itr_run (σ := Int32 × Mem) (ρ := Int32 × Mem) (fun i s => s.1 = nI i ∧ (s.2.2 = M.2 ∧ ∀ k, ¬ (27 ≤ k ∧ k ≤ 35) → s.2.1 k = M.1 k) ∧ ∀ c, c < i → Lst B V s.2 c ∧ opn s.2 c) (fun q => (q.2.2 = M.2 ∧ ∀ k, ¬ (27 ≤ k ∧ k ≤ 35) → q.2.1 k = M.1 k) ∧ ∀ c, c < n → Lst B V q.2 c ∧ opn q.2 c) n (zfu_gt (by omega)) ⟨rfl, ⟨rfl, fun _ _ => rfl⟩, fun c hc => by omega⟩ (fun i s hi hp => ?_) (fun s hp => ?_)
  · obtain ⟨x, M1⟩ := s
    obtain ⟨rfl, hx, hl⟩ := hp
    dsimp only at hx hl
    have C1 : RC N R B V M1 := C.of hb.2.2.2.2 (fun k hk => hx.2 k (by omega)) (by rw [hx.2 24 (by omega)])
    have k0 : M1.1 24 0 = nI n := C1.1.2.2.1.trans W.1.1
    have k1 : ¬ nI n ≤ nI i := nI_ge (by omega) (by omega)
    obtain ⟨M2, e2, x2, len, l1, l2, l3, l4, l5⟩ := e_gather W C1 (show i < 6 by omega)
    have eo := e_open (M := M2) (show i < 6 by omega) l1 l2 l3
    generalize hv0 : M2.1 (27 + i) 0 = v0 at eo
    generalize hv1 : M2.1 (27 + i) (len - 1) = v1 at eo
    have a34 : ∀ c, (wI (wI M2 34 (nI i) v0) 35 (nI i) v1).1 34 c = if c = i then v0 else M2.1 34 c := fun c => by rw [wI_ne (by omega : 34 ≠ 35), wI_at (by omega)]
    have a35 : ∀ c, (wI (wI M2 34 (nI i) v0) 35 (nI i) v1).1 35 c = if c = i then v1 else M2.1 35 c := fun c => by rw [wI_at (by omega), wI_ne (by omega : 35 ≠ 34)]
    have aq : ∀ k, k ≠ 34 → k ≠ 35 → (wI (wI M2 34 (nI i) v0) 35 (nI i) v1).1 k = M2.1 k := fun k h1 h2 => by rw [wI_ne h2, wI_ne h1]
    refine ⟨.inl (nI (i + 1), wI (wI M2 34 (nI i) v0) 35 (nI i) v1), ?_, rfl, ⟨x2.1.trans hx.1, fun k hk => ?_⟩, fun c hc => ?_⟩
    · simp only [p_Se_find_L13, k0, k1, bnd_e e2, bnd_e eo, nI_1, ↓reduceIte]
    · dsimp only
      rw [aq k (by omega) (by omega), x2.2.1 k (by omega) (by omega)]; exact hx.2 k hk
    · unfold Lst opn
      dsimp only
      rw [a34, a35, aq 33 (by omega) (by omega), aq (27 + c) (by omega) (by omega)]
      by_cases e : c = i
      · rw [if_pos e, if_pos e, e]
        exact ⟨⟨len, l1, l2, l3, l4, l5⟩, len, l1, l2, l3, hv0.symm, hv1.symm⟩
      · rw [if_neg e, if_neg e, x2.2.2 c e, x2.2.1 (27 + c) (by omega) (by omega), x2.2.1 34 (by omega) (by omega), x2.2.1 35 (by omega) (by omega)]
        exact hl c (by omega)
  · obtain ⟨x, M1⟩ := s
    obtain ⟨rfl, hx, hl⟩ := hp
    dsimp only at hx hl
    have C1 : RC N R B V M1 := C.of hb.2.2.2.2 (fun k hk => hx.2 k (by omega)) (by rw [hx.2 24 (by omega)])
    have k0 : M1.1 24 0 = nI n := C1.1.2.2.1.trans W.1.1
    have k1 : nI n ≤ nI n := nI_le (by omega) (by omega)
    exact ⟨(nI n, M1), by simp only [p_Se_find_L13, k0, k1, ↓reduceIte], hx, hl⟩
set_option maxHeartbeats 4000000 in
set_option maxRecDepth 100000 in
theorem e_find (W : WF n N R B V) (C : RC N R B V M) (g : Int32) : ∃ r M', p_Se_find g M = some (r, M') ∧ RC N R B V M' ∧ ((r = 0 ∧ Non n R B V g.toInt (fun _ => True)) ∨ (r = 1 ∧ ∃ x, Bst n R B V g.toInt (fun _ => True) x ∧ M'.1 24 9 = nI (cst V x n) ∧ ∀ c, c < n → M'.1 36 c = x c)) := by
  have hb := W.2.1
  have C1 : RC N R B V (wF (wF M 24 10 g) 24 9 1000000) := (C.sF hb.2.2.2.2 (Or.inr ⟨rfl, by omega⟩)).sF hb.2.2.2.2 (Or.inr ⟨rfl, by omega⟩)
  obtain ⟨⟨q, M0⟩, e1, x1, hl⟩ := e_find13 W C1
  dsimp only at x1 hl
  have C0 : RC N R B V M0 := C1.of hb.2.2.2.2 (fun k hk => x1.2 k (by omega)) (by rw [x1.2 24 (by omega)])
  have hg : M0.1 24 10 = g := by rw [x1.2 24 (by omega), wF_o (by omega)]; exact wF_at
  have h9 : M0.1 24 9 = 1000000 := by rw [x1.2 24 (by omega)]; exact wF_at
  have H : HL n B V M0 (fun c => (M0.1 33 c).toNatClampNeg) := fun c hc => by
    obtain ⟨⟨len, l1, l2, l3, l4⟩, _⟩ := hl c hc
    dsimp only
    rw [l3, nI_clamp (by omega)]
    exact ⟨l1, l2, rfl, l4⟩
  have hB : BxS n M0 (fun c => (M0.1 33 c).toNatClampNeg) 0 0 (fun _ => 0) M0 := ⟨XV.rf, fun c hc => by omega, fun c _ hc => by
    obtain ⟨_, len, l1, l2, l3, l4, l5⟩ := hl c hc
    dsimp only
    rw [l3, nI_clamp (by omega)]
    exact ⟨l4, l5⟩⟩
  obtain ⟨M2, e2, b2, s2⟩ := vs_ok W C0 H hg n 0 (by omega) 14 (by omega) (fun _ => 0) (fun _ => False) M0 (fun c hc => by omega) (fun y z h => h.elim) hB (Or.inl ⟨h9, fun y hy => hy.elim⟩)
  have e2' : p_Se_vs 14 true 0 0 M0 = some M2 := e2
  have C2 := C0.v hb.2.2.2.2 b2.1
  have s3 : Stt n R B V g.toInt (fun _ => True) M2 := s2.im (fun y _ _ _ => Or.inr (fun c hc => by omega)) (fun _ _ => trivial) rfl (fun _ _ => rfl)
  unfold p_Se_find
  rw [nm_s, nm_s, bnd_e e1]
  dsimp only
  rw [bnd_e e2']
  rcases s3 with ⟨t1, t2⟩ | ⟨x, -, t1, t2, t3⟩
  · refine ⟨0, M2, ?_, C2, Or.inl ⟨rfl, t2⟩⟩
    rw [t1, if_pos (by decide)]
  · refine ⟨1, M2, ?_, C2, Or.inr ⟨rfl, x, t1, t2, t3⟩⟩
    have hx := cst_bd W (x := x) (k := n) (by omega) t1.1
    rw [t2, if_neg (fun q => by
      rw [Int32.le_iff_toInt_le, nI_toInt (by omega), show (1000000 : Int32).toInt = 1000000 from rfl] at q
      omega)]
end PS
