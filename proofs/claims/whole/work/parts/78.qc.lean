/-! the search -/
def XV (M M' : Mem) : Prop := M'.2 = M.2 ∧ (∀ k, k ≠ 6 → k ≠ 24 → k ≠ 34 → k ≠ 35 → k ≠ 36 → M'.1 k = M.1 k) ∧ ∀ j, j ≠ 9 → M'.1 24 j = M.1 24 j
set_option maxHeartbeats 4000000 in
set_option maxRecDepth 100000 in
theorem XV.rf {M : Mem} : XV M M := ⟨rfl, fun _ _ _ _ _ _ => rfl, fun _ _ => rfl⟩
set_option maxHeartbeats 4000000 in
set_option maxRecDepth 100000 in
theorem XV.tr {M M' M'' : Mem} (h : XV M M') (h' : XV M' M'') : XV M M'' := ⟨h'.1.trans h.1, fun k a b c d e => (h'.2.1 k a b c d e).trans (h.2.1 k a b c d e), fun j hj => (h'.2.2 j hj).trans (h.2.2 j hj)⟩
set_option maxHeartbeats 4000000 in
set_option maxRecDepth 100000 in
theorem XV.x6 {M M' : Mem} (h : X6 M M') : XV M M' := ⟨h.1, fun k a _ _ _ _ => h.2 k a, fun j _ => by rw [h.2 24 (by omega)]⟩
set_option maxHeartbeats 4000000 in
set_option maxRecDepth 100000 in
theorem XV.w {M M' : Mem} (h : XV M M') {k : Nat} {i v : Int32} (hk : k = 34 ∨ k = 35 ∨ k = 36) : XV M (wI M' k i v) := ⟨h.1, fun q a b c d e => by rw [wI_ne (show q ≠ k by omega)]; exact h.2.1 q a b c d e, fun j hj => by rw [wI_ne (show 24 ≠ k by omega)]; exact h.2.2 j hj⟩
set_option maxHeartbeats 4000000 in
set_option maxRecDepth 100000 in
theorem XV.f {M M' : Mem} (h : XV M M') {v : Int32} : XV M (wF M' 24 9 v) := ⟨h.1, fun q a b c d e => by rw [wF_ne b]; exact h.2.1 q a b c d e, fun j hj => by rw [wF_o hj]; exact h.2.2 j hj⟩
set_option maxHeartbeats 4000000 in
set_option maxRecDepth 100000 in
theorem sub_toI {x y : Int32} (hx : -100 ≤ x.toInt ∧ x.toInt ≤ 100) (hy : -100 ≤ y.toInt ∧ y.toInt ≤ 100) : (x - y).toInt = x.toInt - y.toInt := by
  have e : x - y = Int32.ofInt (x.toInt - y.toInt) := by rw [Int32.ofInt_sub, Int32.ofInt_toInt, Int32.ofInt_toInt]
  rw [e]
  exact Int32.toInt_ofInt_of_le (by omega) (by omega)
set_option maxHeartbeats 4000000 in
set_option maxRecDepth 100000 in
theorem abs_nI {x : Int32} (h1 : -1000 ≤ x.toInt) (h2 : x.toInt ≤ 1000) : (if 0 ≤ x then x else 0 - x) = nI x.toInt.natAbs := by
  apply Int32.toInt_inj.mp
  rw [nI_toInt (by omega)]
  by_cases c : 0 ≤ x
  · rw [if_pos c]
    rw [Int32.le_iff_toInt_le, show (0 : Int32).toInt = 0 from rfl] at c
    omega
  · rw [if_neg c]
    rw [Int32.le_iff_toInt_le, show (0 : Int32).toInt = 0 from rfl] at c
    have e : 0 - x = Int32.ofInt (-x.toInt) := by rw [Int32.zero_sub, Int32.ofInt_neg, Int32.ofInt_toInt]
    rw [e, Int32.toInt_ofInt_of_le (by omega) (by omega)]
    omega
section PS
variable {n N R B : Nat} {V : Vw} {M M0 : Mem} {ln : Nat → Nat} {w : Int}
set_option maxHeartbeats 4000000 in
set_option maxRecDepth 100000 in
theorem RC.v {M' : Mem} (C : RC N R B V M) (hB : B ≤ 5) (h : XV M M') : RC N R B V M' := C.of hB (fun k hk => h.2.1 k (by omega) (by omega) (by omega) (by omega) (by omega)) (h.2.2 0 (by omega))
set_option maxHeartbeats 4000000 in
set_option maxRecDepth 100000 in
theorem e_costOf (W : WF n N R B V) (C : RC N R B V M) {c : Nat} {v : Int32} (hc : c < 6) (hv : ch B V c v) : p_Se_costOf (nI c) v M = some (nI (ci V c v)) := by
  have kc := nI_clamp (show c < 2 ^ 31 by omega)
  have ic : inb (nI c) (alenC 10) = true := show inb (nI c) 6 = true from inb_nI hc (by omega)
  have b1 := ch_bd W hc hv
  have b2 := itm_bd W (show 0 ≤ 5 by omega) c hc
  have es := sub_toI b1 b2
  have ea := abs_nI (x := v - itm V 0 c) (by omega) (by omega)
  rw [es] at ea
  have z : nI (v.toInt - (itm V 0 c).toInt).natAbs = 0 ↔ v = itm V 0 c := by
    rw [nI_z (by omega), ← Int32.toInt_inj]; omega
  unfold p_Se_costOf
  rw [bnd_e e_at0, chk_t ic, kc, row0 C c hc, ea]
  unfold ci dst
  by_cases e : v = itm V 0 c
  · rw [if_pos (z.mpr e), if_pos e]; rfl
  · rw [if_neg (mt z.mp e), if_neg e, ← nI_add]; rfl
set_option maxHeartbeats 4000000 in
set_option maxRecDepth 100000 in
theorem e_keep (W : WF n N R B V) (C : RC N R B V M) {v : Int32} : ∃ M', p_Se_keep v M = some M' ∧ (M'.2 = M.2 ∧ (∀ k, k ≠ 24 → k ≠ 36 → M'.1 k = M.1 k) ∧ ∀ j, j ≠ 9 → M'.1 24 j = M.1 24 j) ∧ M'.1 24 9 = v ∧ ∀ c, c < n → M'.1 36 c = M.1 34 c := by
  have hb := W.2.1
  have hq : ∃ q : Int32 × Mem, itr zfu (fun s => p_Se_keep_L7 s.1 s.2) ((0 : Int32), wF M 24 9 v) = some q ∧ (q.2.2 = M.2 ∧ (∀ k, k ≠ 24 → k ≠ 36 → q.2.1 k = M.1 k) ∧ ∀ j, j ≠ 9 → q.2.1 24 j = M.1 24 j) ∧ q.2.1 24 9 = v ∧ ∀ c, c < n → q.2.1 36 c = M.1 34 c := by
    refine itr_run (σ := Int32 × Mem) (ρ := Int32 × Mem) (fun i s => s.1 = nI i ∧ (s.2.2 = M.2 ∧ (∀ k, k ≠ 24 → k ≠ 36 → s.2.1 k = M.1 k) ∧ ∀ j, j ≠ 9 → s.2.1 24 j = M.1 24 j) ∧ s.2.1 24 9 = v ∧ ∀ c, c < i → s.2.1 36 c = M.1 34 c) (fun q => (q.2.2 = M.2 ∧ (∀ k, k ≠ 24 → k ≠ 36 → q.2.1 k = M.1 k) ∧ ∀ j, j ≠ 9 → q.2.1 24 j = M.1 24 j) ∧ q.2.1 24 9 = v ∧ ∀ c, c < n → q.2.1 36 c = M.1 34 c) n (zfu_gt (by omega)) ⟨rfl, ⟨rfl, fun k a _ => wF_ne a, fun j hj => wF_o hj⟩, wF_at, fun c hc => by omega⟩ (fun i s hi hp => ?_) (fun s hp => ?_)
    · obtain ⟨x, M1⟩ := s
      obtain ⟨rfl, hx, h9, hk⟩ := hp
      dsimp only at hx h9 hk
      have k0 : M1.1 24 0 = nI n := (hx.2.2 0 (by omega)).trans (C.1.2.2.1.trans W.1.1)
      have k1 : ¬ nI n ≤ nI i := nI_ge (by omega) (by omega)
      have k2 : inb (nI i) 6 = true := inb_nI (by omega) (by omega)
      refine ⟨.inl (nI (i + 1), wI M1 36 (nI i) (M.1 34 i)), ?_, rfl, ⟨hx.1, fun k a b => by rw [wI_ne b]; exact hx.2.1 k a b, fun j hj => by rw [wI_ne (by omega : 24 ≠ 36)]; exact hx.2.2 j hj⟩, by dsimp only; rw [wI_ne (by omega : 24 ≠ 36)]; exact h9, fun c hc => ?_⟩
      · simp only [p_Se_keep_L7, k0, k1, k2, chk_true, nm_s, nI_clamp (show i < 2 ^ 31 by omega), hx.2.1 34 (by omega) (by omega), nI_1, ↓reduceIte]
      · dsimp only
        rw [wI_at (by omega)]
        by_cases e : c = i
        · rw [if_pos e, e]
        · rw [if_neg e]; exact hk c (by omega)
    · obtain ⟨x, M1⟩ := s
      obtain ⟨rfl, hx, h9, hk⟩ := hp
      dsimp only at hx h9 hk
      have k0 : M1.1 24 0 = nI n := (hx.2.2 0 (by omega)).trans (C.1.2.2.1.trans W.1.1)
      have k1 : nI n ≤ nI n := nI_le (by omega) (by omega)
      exact ⟨(nI n, M1), by simp only [p_Se_keep_L7, k0, k1, ↓reduceIte], hx, h9, hk⟩
  obtain ⟨q, h1, h2⟩ := hq
  refine ⟨q.2, ?_, h2⟩
  unfold p_Se_keep
  rw [nm_s, bnd_e h1]
def HL (n B : Nat) (V : Vw) (M0 : Mem) (ln : Nat → Nat) : Prop := ∀ c, c < n → 1 ≤ ln c ∧ ln c ≤ 6 ∧ M0.1 33 c = nI (ln c) ∧ srt (M0.1 (27 + c)) (ln c) ∧ ∀ u, mbr (M0.1 (27 + c)) (ln c) u ↔ ch B V c u
def BxS (n : Nat) (M0 : Mem) (ln : Nat → Nat) (a b : Nat) (p : Nat → Int32) (M : Mem) : Prop := XV M0 M ∧ (∀ c, c < a → M.1 34 c = p c ∧ M.1 35 c = p c) ∧ ∀ c, b ≤ c → c < n → M.1 34 c = M0.1 (27 + c) 0 ∧ M.1 35 c = M0.1 (27 + c) (ln c - 1)
def Stt (n R B : Nat) (V : Vw) (w : Int) (S : (Nat → Int32) → Prop) (M : Mem) : Prop := (M.1 24 9 = 1000000 ∧ Non n R B V w S) ∨ ∃ x, S x ∧ Bst n R B V w S x ∧ M.1 24 9 = nI (cst V x n) ∧ ∀ c, c < n → M.1 36 c = x c
set_option maxHeartbeats 4000000 in
set_option maxRecDepth 100000 in
theorem Stt.im {S S' : (Nat → Int32) → Prop} {M' : Mem} (h : Stt n R B V w S M) (h1 : ∀ y, S' y → cand n B V y → w ≤ ans R V y → S y) (h2 : ∀ y, S y → S' y) (h3 : M'.1 24 9 = M.1 24 9) (h4 : ∀ c, c < n → M'.1 36 c = M.1 36 c) : Stt n R B V w S' M' := by
  rcases h with ⟨a, b⟩ | ⟨x, a, b, c, d⟩
  · exact Or.inl ⟨h3.trans a, fun y hy hc hf => b y (h1 y hy hc hf) hc hf⟩
  · exact Or.inr ⟨x, h2 x a, ⟨b.1, b.2.1, fun y hy hc hf => b.2.2 y (h1 y hy hc hf) hc hf⟩, h3.trans c, fun k hk => (h4 k hk).trans (d k hk)⟩
set_option maxHeartbeats 4000000 in
set_option maxRecDepth 100000 in
theorem lst_in (H : HL n B V M0 ln) {c k : Nat} (hc : c < n) (hk : k < ln c) : ch B V c (M0.1 (27 + c) k) := ((H c hc).2.2.2.2 _).mp ⟨k, hk, rfl⟩
set_option maxHeartbeats 4000000 in
set_option maxRecDepth 100000 in
theorem lst_bt (H : HL n B V M0 ln) {c : Nat} {v : Int32} (hc : c < n) (hv : ch B V c v) : (M0.1 (27 + c) 0).toInt ≤ v.toInt ∧ v.toInt ≤ (M0.1 (27 + c) (ln c - 1)).toInt := by
  obtain ⟨k, hk, rfl⟩ := ((H c hc).2.2.2.2 v).mpr hv
  have hs := (H c hc).2.2.2.1
  refine ⟨?_, ?_⟩
  · by_cases e : k = 0
    · rw [e]; exact Int.le_refl _
    · have := hs 0 k (by omega) hk; omega
  · by_cases e : k = ln c - 1
    · rw [← e]; exact Int.le_refl _
    · have := hs k (ln c - 1) (by omega) (by omega); omega
set_option maxHeartbeats 4000000 in
set_option maxRecDepth 100000 in
theorem visit_ok (W : WF n N R B V) (C0 : RC N R B V M0) (H : HL n B V M0 ln) {g : Int32} (hg : M0.1 24 10 = g) {rc : Int32 → Int32 → Mem → Option Mem} {a : Nat} {p : Nat → Int32} {S : (Nat → Int32) → Prop} (ha : a ≤ n) (hp : ∀ c, c < a → ch B V c (p c)) (hS : ∀ y z, S y → eqn a z p → lx n y z) (hM : BxS n M0 ln a a p M) (hst : Stt n R B V g.toInt S M)
    (hrc : a < n → ∀ M1 : Mem, BxS n M0 ln a a p M1 → Stt n R B V g.toInt S M1 → ∃ M', rc (nI a) (nI (cst V p a)) M1 = some M' ∧ BxS n M0 ln a a p M' ∧ Stt n R B V g.toInt (fun y => S y ∨ eqn a y p) M') :
    ∃ M', p_Se_visit rc (nI a) (nI (cst V p a)) M = some M' ∧ BxS n M0 ln a a p M' ∧ Stt n R B V g.toInt (fun y => S y ∨ eqn a y p) M' := by
  have hb := W.2.1
  have C := C0.v hb.2.2.2.2 hM.1
  have hcb := cst_bd W (x := p) (k := a) (by omega) hp
  have hb2 : a * 10200 ≤ 61200 := by omega
  unfold p_Se_visit
  by_cases q1 : M.1 24 9 ≤ nI (cst V p a)
  · rw [if_pos q1]
    refine ⟨M, rfl, hM, ?_⟩
    rcases hst with ⟨s1, s2⟩ | ⟨x, s1, s2, s3, s4⟩
    · exfalso
      rw [s1, Int32.le_iff_toInt_le, nI_toInt (by omega), show (1000000 : Int32).toInt = 1000000 from rfl] at q1
      omega
    · have hx := cst_bd W (x := x) (k := n) (by omega) s2.1
      have hx2 : n * 10200 ≤ 61200 := by omega
      rw [s3, nI_leI (by omega) (by omega)] at q1
      refine Or.inr ⟨x, Or.inl s1, ⟨s2.1, s2.2.1, fun y hy hc hf => ?_⟩, s3, s4⟩
      rcases hy with hy | hy
      · exact s2.2.2 y hy hc hf
      · have m1 := cst_mono (V := V) (x := y) ha
        rw [cst_cg (V := V) hy] at m1
        by_cases e : cst V x n < cst V y n
        · exact Or.inl e
        · exact Or.inr ⟨by omega, lx_as (hS x y s1 hy)⟩
  · rw [if_neg q1]
    have hlh : ∀ c, c < n → -100 ≤ (M.1 34 c).toInt ∧ (M.1 34 c).toInt ≤ (M.1 35 c).toInt ∧ (M.1 35 c).toInt ≤ 100 := fun c hc => by
      by_cases e : c < a
      · have := ch_bd W (by omega) (hp c e)
        rw [(hM.2.1 c e).1, (hM.2.1 c e).2]; omega
      · obtain ⟨u1, u2⟩ := hM.2.2 c (by omega) hc
        have v0 := (H c hc).1
        have v1 := ch_bd W (by omega) (lst_in H hc (show 0 < ln c by omega))
        have v2 := ch_bd W (by omega) (lst_in H hc (show ln c - 1 < ln c by omega))
        have v3 := lst_bt H hc (lst_in H hc (show 0 < ln c by omega))
        rw [u1, u2]; omega
    obtain ⟨b, M1, e1, x1, bb, up, eq⟩ := e_bound W C hlh
    have hM1 : BxS n M0 ln a a p M1 := ⟨hM.1.tr (XV.x6 x1), fun c hc => by rw [x1.2 34 (by omega), x1.2 35 (by omega)]; exact hM.2.1 c hc, fun c h1 h2 => by rw [x1.2 34 (by omega), x1.2 35 (by omega)]; exact hM.2.2 c h1 h2⟩
    have g1 : M1.1 24 10 = g := (hM1.1.2.2 10 (by omega)).trans hg
    have n1 : M1.1 24 0 = nI n := (hM1.1.2.2 0 (by omega)).trans (C0.1.2.2.1.trans W.1.1)
    have m9 : M1.1 24 9 = M.1 24 9 := by rw [x1.2 24 (by omega)]
    have m36 : ∀ c, c < n → M1.1 36 c = M.1 36 c := fun c _ => by rw [x1.2 36 (by omega)]
    have le : g ≤ Int32.ofInt b ↔ g.toInt ≤ b := by rw [Int32.le_iff_toInt_le, Int32.toInt_ofInt_of_le (by omega) (by omega)]
    rw [bnd_e e1, g1, n1]
    dsimp only
    by_cases q2 : g.toInt ≤ b
    · rw [if_pos (le.mpr q2)]
      by_cases q3 : a = n
      · rw [if_pos (by rw [q3]; exact nI_le (by omega) (by omega))]
        have C1 := C0.v hb.2.2.2.2 hM1.1
        obtain ⟨M2, e2, x2, k9, k36⟩ := e_keep W C1 (v := nI (cst V p a))
        refine ⟨M2, by rw [bnd_e e2], ⟨⟨x2.1.trans hM1.1.1, fun k u1 u2 u3 u4 u5 => (x2.2.1 k u2 u5).trans (hM1.1.2.1 k u1 u2 u3 u4 u5), fun j hj => (x2.2.2 j hj).trans (hM1.1.2.2 j hj)⟩, fun c hc => by rw [x2.2.1 34 (by omega) (by omega), x2.2.1 35 (by omega) (by omega)]; exact hM1.2.1 c hc, fun c h1 h2 => by omega⟩, ?_⟩
        have ep : b = ans R V p := eq p (fun c hc => (hM.2.1 c (by omega)).1) (fun c hc => (hM.2.1 c (by omega)).2)
        rw [q3] at k9
        refine Or.inr ⟨p, Or.inr (fun _ _ => rfl), ⟨fun c hc => hp c (by omega), by rw [← ep]; exact q2, fun y hy hc hf => ?_⟩, k9, fun c hc => (k36 c hc).trans (hM1.2.1 c (by omega)).1⟩
        rcases hy with hy | hy
        · rcases hst with ⟨s1, s2⟩ | ⟨x, s1, s2, s3, s4⟩
          · exact absurd hf (s2 y hy hc)
          · have hx := cst_bd W (x := x) (k := n) (by omega) s2.1
            rw [s3, nI_leI (by omega) (by omega), q3] at q1
            have := s2.2.2 y hy hc hf
            unfold be at this ⊢
            omega
        · rw [q3] at hy
          exact Or.inr ⟨(cst_cg hy).symm, lx_ir hy⟩
      · rw [if_neg (nI_ge (by omega) (by omega))]
        obtain ⟨M2, e2, h2⟩ := hrc (by omega) M1 hM1 (hst.im (fun y hy _ _ => hy) (fun y hy => hy) m9 m36)
        exact ⟨M2, by rw [bnd_e e2], h2⟩
    · rw [if_neg (mt le.mp q2)]
      refine ⟨M1, rfl, hM1, hst.im (fun y hy hcd hf => ?_) (fun y hy => Or.inl hy) m9 m36⟩
      rcases hy with hy | hy
      · exact hy
      · exfalso
        have := up y (fun c hc => by
          by_cases e : c < a
          · rw [(hM.2.1 c e).1, (hM.2.1 c e).2, hy c e]; omega
          · obtain ⟨u1, u2⟩ := hM.2.2 c (by omega) hc
            rw [u1, u2]; exact lst_bt H hc (hcd c hc))
        omega
end PS
