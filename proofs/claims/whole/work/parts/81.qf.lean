section PS
variable {n N R B : Nat} {V : Vw} {M : Mem} {w : Int}
def Hst (n R B : Nat) (V : Vw) (w : Int) (S : (Nat → Int32) → Prop) (t : Int32) (M : Mem) : Prop := (t = 0 ∧ Non n R B V w S) ∨ (t = 1 ∧ ∃ x, Bst n R B V w S x ∧ M.1 0 23 = nI (dfn V x n) ∧ M.1 0 24 = nI (dsn V x n) ∧ ∀ c, c < n → M.1 17 c = x c)
set_option maxHeartbeats 4000000 in
set_option maxRecDepth 100000 in
theorem Hst.im {S S' : (Nat → Int32) → Prop} {M' : Mem} {t : Int32} (h : Hst n R B V w S t M) (h1 : ∀ y, S' y → cand n B V y → w ≤ ans R V y → S y) (h3 : M'.1 0 23 = M.1 0 23) (h4 : M'.1 0 24 = M.1 0 24) (h5 : ∀ c, c < n → M'.1 17 c = M.1 17 c) : Hst n R B V w S' t M' := by
  rcases h with ⟨a, b⟩ | ⟨a, x, b, c, d, e⟩
  · exact Or.inl ⟨a, fun y hy hc hf => b y (h1 y hy hc hf) hc hf⟩
  · exact Or.inr ⟨a, x, ⟨b.1, b.2.1, fun y hy hc hf => b.2.2 y (h1 y hy hc hf) hc hf⟩, h3.trans c, h4.trans d, fun k hk => (h5 k hk).trans (e k hk)⟩
set_option maxHeartbeats 4000000 in
set_option maxRecDepth 100000 in
theorem be_lt {x b y : Nat → Int32} (h : cst V x n < cst V b n) (h' : be n V b y) : be n V x y := by
  unfold be at h' ⊢; omega
set_option maxHeartbeats 4000000 in
set_option maxRecDepth 100000 in
theorem be_lx {x b y : Nat → Int32} (h : cst V x n = cst V b n) (hl : lx n x b) (h' : be n V b y) : be n V x y := by
  rcases h' with h' | ⟨h1, h2⟩
  · exact Or.inl (by omega)
  · exact Or.inr ⟨by omega, fun q => h2 (lx_tr q hl)⟩
set_option maxHeartbeats 4000000 in
set_option maxRecDepth 100000 in
theorem be_eq {x y : Nat → Int32} (h : eqn n y x) : be n V x y := Or.inr ⟨(cst_cg h).symm, lx_ir h⟩
set_option maxHeartbeats 4000000 in
set_option maxRecDepth 100000 in
theorem e_hold1 (W : WF n N R B V) (T : RT V M) {x : Nat → Int32} {S : (Nat → Int32) → Prop} (hc : cand n B V x) (hf : w ≤ ans R V x) (h11 : ∀ c, c < n → M.1 11 c = x c) (hN : Non n R B V w S) : ∃ M', p_Md_hold 1 M = some M' ∧ XH M M' ∧ Hst n R B V w (fun y => S y ∨ eqn n y x) 1 M' := by
  obtain ⟨z, y, e1, _⟩ := e_hold10 W T hc h11
  obtain ⟨q, e2, x2, a, b, c⟩ := e_hold152 W T (x := x) (d := nI (dfn V x n)) (s := nI (dsn V x n)) h11
  refine ⟨q.2, ?_, x2, Or.inr ⟨rfl, x, ⟨hc, hf, fun y hy hcy hfy => ?_⟩, a, b, c⟩⟩
  · unfold p_Md_hold
    rw [bnd_e e1, if_neg one_ne, nm_s, nm_s, bnd_e e2]
  · rcases hy with hy | hy
    · exact absurd hfy (hN y hy hcy)
    · exact be_eq hy
set_option maxHeartbeats 4000000 in
set_option maxRecDepth 100000 in
theorem e_hold0 (W : WF n N R B V) (T : RT V M) {x : Nat → Int32} {S : (Nat → Int32) → Prop} (hc : cand n B V x) (hf : w ≤ ans R V x) (h11 : ∀ c, c < n → M.1 11 c = x c) (hN : Hst n R B V w S 1 M) : ∃ M', p_Md_hold 0 M = some M' ∧ XH M M' ∧ Hst n R B V w (fun y => S y ∨ eqn n y x) 1 M' := by
  have hb := W.2.1
  rcases hN with ⟨h, _⟩ | ⟨_, b, hB, h23, h24, h17⟩
  · exact absurd h one_ne
  obtain ⟨z, y, e1, ez⟩ := e_hold10 W T hc h11
  have ez := ez (fun c hc => by rw [h17 c hc]; exact ch_bd W (by omega) (hB.1 c hc))
  have ez : 0 ≤ z ↔ ¬ lx n x b := ez.trans ⟨fun h q => h (lx_cg (fun _ _ => rfl) (fun c hc => (h17 c hc).symm) q), fun h q => h (lx_cg (fun _ _ => rfl) h17 q)⟩
  obtain ⟨q, e2, x2, a, b2, c⟩ := e_hold152 W T (x := x) (d := nI (dfn V x n)) (s := nI (dsn V x n)) h11
  have d1 := @dfn_le V x n
  have d2 := @dfn_le V b n
  have s1 := dsn_bd W (x := x) (k := n) (by omega) hc
  have s2 := dsn_bd W (x := b) (k := n) (by omega) hB.1
  have c1 := @cst_ds V x n
  have c2 := @cst_ds V b n
  have l1 : nI (dfn V x n) < nI (dfn V b n) ↔ dfn V x n < dfn V b n := nI_ltI (by omega) (by omega)
  have l2 : nI (dfn V x n) = nI (dfn V b n) ↔ dfn V x n = dfn V b n := nI_eq (by omega) (by omega)
  have l3 : nI (dsn V x n) < nI (dsn V b n) ↔ dsn V x n < dsn V b n := nI_ltI (by omega) (by omega)
  have l4 : nI (dsn V x n) = nI (dsn V b n) ↔ dsn V x n = dsn V b n := nI_eq (by omega) (by omega)
  have new : (∀ y, be n V b y → be n V x y) → Hst n R B V w (fun y => S y ∨ eqn n y x) 1 q.2 := fun h => Or.inr ⟨rfl, x, ⟨hc, hf, fun y hy hcy hfy => hy.elim (fun hy => h y (hB.2.2 y hy hcy hfy)) be_eq⟩, a, b2, c⟩
  have old : be n V b x → Hst n R B V w (fun y => S y ∨ eqn n y x) 1 M := fun h => Or.inr ⟨rfl, b, ⟨hB.1, hB.2.1, fun y hy hcy hfy => hy.elim (fun hy => hB.2.2 y hy hcy hfy) (fun hy => be_cg (fun _ _ => rfl) (fun c hc => (hy c hc).symm) h)⟩, h23, h24, h17⟩
  unfold p_Md_hold
  rw [bnd_e e1, if_pos rfl, h23, h24]
  dsimp only
  simp only [l1, l2, l3, l4]
  by_cases q1 : dfn V x n < dfn V b n
  · rw [if_pos q1, nm_s, nm_s, bnd_e e2]
    exact ⟨_, rfl, x2, new (fun y => be_lt (by omega))⟩
  · rw [if_neg q1]
    by_cases q2 : dfn V x n = dfn V b n
    · rw [if_pos q2]
      by_cases q3 : dsn V x n < dsn V b n
      · rw [if_pos q3, nm_s, nm_s, bnd_e e2]
        exact ⟨_, rfl, x2, new (fun y => be_lt (by omega))⟩
      · rw [if_neg q3]
        by_cases q4 : dsn V x n = dsn V b n
        · rw [if_pos q4]
          by_cases q5 : 0 ≤ z
          · rw [if_pos q5]
            exact ⟨M, rfl, ⟨rfl, fun _ _ _ => rfl, fun _ _ _ => rfl⟩, old (Or.inr ⟨by omega, ez.mp q5⟩)⟩
          · rw [if_neg q5, nm_s, nm_s, bnd_e e2]
            have hl : lx n x b := Classical.byContradiction (fun h => q5 (ez.mpr h))
            exact ⟨_, rfl, x2, new (fun y => be_lx (by omega) hl)⟩
        · rw [if_neg q4]
          exact ⟨M, rfl, ⟨rfl, fun _ _ _ => rfl, fun _ _ _ => rfl⟩, old (Or.inl (by omega))⟩
    · rw [if_neg q2]
      exact ⟨M, rfl, ⟨rfl, fun _ _ _ => rfl, fun _ _ _ => rfl⟩, old (Or.inl (by omega))⟩
/-! the tuples, in the order in which they are gone through -/
def clx (n : Nat) (g f : Nat → Nat) : Prop := ∃ c, c < n ∧ g c < f c ∧ ∀ j, c < j → j < n → g j = f j
set_option maxHeartbeats 4000000 in
set_option maxRecDepth 100000 in
theorem top_le {g f : Nat → Nat} : ∀ {c : Nat}, (∀ j, j < c → g j ≤ f j) → (∀ j, j < c → g j = f j) ∨ clx c g f := by
  intro c
  induction c with
  | zero => intro _; exact Or.inl (fun j hj => by omega)
  | succ c ih =>
    intro h
    by_cases e : g c = f c
    · rcases ih (fun j hj => h j (by omega)) with h1 | ⟨d, d1, d2, d3⟩
      · refine Or.inl (fun j hj => ?_)
        by_cases q : j = c
        · rw [q]; exact e
        · exact h1 j (by omega)
      · refine Or.inr ⟨d, by omega, d2, fun j a b => ?_⟩
        by_cases q : j = c
        · rw [q]; exact e
        · exact d3 j a (by omega)
    · exact Or.inr ⟨c, by omega, by have := h c (by omega); omega, fun j a b => by omega⟩
set_option maxHeartbeats 4000000 in
set_option maxRecDepth 100000 in
theorem adv_sub {g f f' : Nat → Nat} {c r : Nat} (hc : c < n) (hg : ∀ j, j < n → vd B V j (g j)) (h1 : ∀ j, j < c → f' j = 0) (h2 : f' c = r) (h3 : ∀ j, c < j → j < n → f' j = f j) (h4 : ∀ j, j < c → ∀ q, f j < q → ¬ vd B V j q) (h5 : ∀ q, f c < q → q < r → ¬ vd B V c q) (h : clx n g f') : clx n g f ∨ ∀ j, j < n → g j = f j := by
  obtain ⟨d, d1, d2, d3⟩ := h
  rcases Nat.lt_trichotomy d c with e | e | e
  · rw [h1 d e] at d2; omega
  · subst e
    rw [h2] at d2
    have ab : ∀ j, d < j → j < n → g j = f j := fun j a b => (d3 j a b).trans (h3 j a b)
    by_cases q : g d = f d
    · rcases top_le (c := d) (g := g) (f := f) (fun j hj => Nat.le_of_not_lt (fun k => h4 j hj _ k (hg j (by omega)))) with t | ⟨k, k1, k2, k3⟩
      · refine Or.inr (fun j hj => ?_)
        rcases Nat.lt_trichotomy j d with u | u | u
        · exact t j u
        · rw [u]; exact q
        · exact ab j u hj
      · refine Or.inl ⟨k, by omega, k2, fun j a b => ?_⟩
        rcases Nat.lt_trichotomy j d with u | u | u
        · exact k3 j a u
        · rw [u]; exact q
        · exact ab j u b
    · have : ¬ f d < g d := fun k => h5 _ k d2 (hg d d1)
      exact Or.inl ⟨d, d1, by omega, ab⟩
  · rw [h3 d e d1] at d2
    exact Or.inl ⟨d, d1, d2, fun j a b => (d3 j a b).trans (h3 j (by omega) b)⟩
def num (f : Nat → Nat) : Nat → Nat
  | 0 => 0
  | c + 1 => num f c + f c * 6 ^ c
set_option maxHeartbeats 4000000 in
set_option maxRecDepth 100000 in
theorem num_lt {f : Nat → Nat} : ∀ {c : Nat}, (∀ j, j < c → f j ≤ 5) → num f c < 6 ^ c := by
  intro c
  induction c with
  | zero => intro _; exact Nat.one_pos
  | succ c ih =>
    intro h
    have h1 := ih (fun j hj => h j (by omega))
    have h2 := Nat.mul_le_mul_right (6 ^ c) (h c (by omega))
    simp only [num]
    rw [Nat.pow_succ]
    omega
set_option maxHeartbeats 4000000 in
set_option maxRecDepth 100000 in
theorem num_adv {f f' : Nat → Nat} {c : Nat} (hf : ∀ j, j < c → f j ≤ 5) (h2 : f c < f' c) : ∀ {k : Nat}, c < k → (∀ j, c < j → j < k → f' j = f j) → num f k < num f' k := by
  intro k
  induction k with
  | zero => intro h; omega
  | succ k ih =>
    intro h h3
    by_cases e : c = k
    · subst e
      have h1 := num_lt hf
      have h4 := Nat.mul_le_mul_right (6 ^ c) (show f c + 1 ≤ f' c from h2)
      rw [Nat.add_mul] at h4
      simp only [num]
      omega
    · have := ih (by omega) (fun j a b => h3 j a (by omega))
      simp only [num]
      rw [h3 k (by omega) (by omega)]
      omega
set_option maxHeartbeats 4000000 in
set_option maxRecDepth 100000 in
theorem pow6 {n : Nat} (h : n ≤ 6) : 6 ^ n ≤ 46656 := Nat.le_trans (Nat.pow_le_pow_right (by omega) h) (by decide)
def rw0 (V : Vw) (f : Nat → Nat) : Nat → Int32 := fun c => itm V (f c) c
set_option maxHeartbeats 4000000 in
set_option maxRecDepth 100000 in
theorem vd_ch {c q : Nat} (h : vd B V c q) : ch B V c (itm V q c) := by
  by_cases e : q = 0
  · rw [e]; exact Or.inl rfl
  · obtain ⟨r, rfl⟩ : ∃ r, q = r + 1 := ⟨q - 1, by omega⟩
    exact Or.inr ⟨h.2.1.resolve_left e, r, by have := h.1; omega, rfl⟩
set_option maxHeartbeats 4000000 in
set_option maxRecDepth 100000 in
theorem ch_vd {c : Nat} {v : Int32} (h : ch B V c v) : ∃ q, vd B V c q ∧ v = itm V q c := by
  rcases h with h | ⟨h9, r, hr, h⟩
  · exact ⟨0, ⟨by omega, Or.inl rfl, fun q hq => by omega⟩, h⟩
  · obtain ⟨k, k1, k2, k3⟩ := least (p := fun q => itm V q c = v) (m := r + 2) ⟨r + 1, by omega, h.symm⟩
    exact ⟨k, ⟨by omega, Or.inr h9, fun q hq => by rw [k2]; exact k3 q hq⟩, k2.symm⟩
def Sf (n B : Nat) (V : Vw) (f : Nat → Nat) (y : Nat → Int32) : Prop := ∃ g : Nat → Nat, (∀ c, c < n → vd B V c (g c) ∧ y c = itm V (g c) c) ∧ clx n g f
set_option maxHeartbeats 4000000 in
set_option maxRecDepth 100000 in
theorem cand_g {y : Nat → Int32} (h : cand n B V y) : ∃ g : Nat → Nat, ∀ c, c < n → vd B V c (g c) ∧ y c = itm V (g c) c := by
  refine ⟨fun c => if hc : c < n then Classical.choose (ch_vd (h c hc)) else 0, fun c hc => ?_⟩
  dsimp only
  rw [dif_pos hc]
  exact Classical.choose_spec (ch_vd (h c hc))
def XA (M M' : Mem) : Prop := M'.2 = M.2 ∧ ∀ k, k ≠ 16 → M'.1 k = M.1 k
set_option maxHeartbeats 4000000 in
set_option maxRecDepth 100000 in
theorem RT.a {M' : Mem} (T : RT V M) (h : XA M M') : RT V M' := T.of (fun k a b => h.2 k (by omega)) (fun j _ => by rw [h.2 0 (by omega)])
set_option maxHeartbeats 4000000 in
set_option maxRecDepth 100000 in
theorem e_adv (W : WF n N R B V) (T : RT V M) {f : Nat → Nat} (hf : ∀ c, c < n → M.1 16 c = nI (f c) ∧ f c ≤ B) : ∃ (c : Nat) (M' : Mem), itr zfu (fun s => p_Md_findNearest_L105 s.1 s.2) ((0 : Int32), M) = some (nI c, M') ∧ XA M M' ∧ c ≤ n ∧ (∀ j, j < c → M'.1 16 j = nI 0) ∧ (∀ j, c ≤ j → j < n → M'.1 16 j = nI (f j)) ∧ (∀ j, j < c → ∀ q, f j < q → ¬ vd B V j q) ∧ (c < n → ∃ r, p_Md_next (nI c) M' = some (nI r) ∧ f c < r ∧ vd B V c r ∧ ∀ q, f c < q → q < r → ¬ vd B V c q) := by
  have hb := W.2.1
  have hq : ∃ q : Int32 × Mem, itr zfu (fun s => p_Md_findNearest_L105 s.1 s.2) ((0 : Int32), M) = some q ∧ ∃ c, q.1 = nI c ∧ XA M q.2 ∧ c ≤ n ∧ (∀ j, j < c → q.2.1 16 j = nI 0) ∧ (∀ j, c ≤ j → j < n → q.2.1 16 j = nI (f j)) ∧ (∀ j, j < c → ∀ q, f j < q → ¬ vd B V j q) ∧ (c < n → ∃ r, p_Md_next (nI c) q.2 = some (nI r) ∧ f c < r ∧ vd B V c r ∧ ∀ q, f c < q → q < r → ¬ vd B V c q) := by
    refine itr_run (σ := Int32 × Mem) (ρ := Int32 × Mem) (fun i s => s.1 = nI i ∧ XA M s.2 ∧ (∀ j, j < i → s.2.1 16 j = nI 0) ∧ (∀ j, i ≤ j → j < n → s.2.1 16 j = nI (f j)) ∧ (∀ j, j < i → ∀ q, f j < q → ¬ vd B V j q)) (fun q => ∃ c, q.1 = nI c ∧ XA M q.2 ∧ c ≤ n ∧ (∀ j, j < c → q.2.1 16 j = nI 0) ∧ (∀ j, c ≤ j → j < n → q.2.1 16 j = nI (f j)) ∧ (∀ j, j < c → ∀ q, f j < q → ¬ vd B V j q) ∧ (c < n → ∃ r, p_Md_next (nI c) q.2 = some (nI r) ∧ f c < r ∧ vd B V c r ∧ ∀ q, f c < q → q < r → ¬ vd B V c q)) n (zfu_gt (by omega)) ⟨rfl, ⟨rfl, fun _ _ => rfl⟩, fun j hj => by omega, fun j _ hj => (hf j hj).1, fun j hj => by omega⟩ (fun i s hi hp => ?_) (fun s hp => ?_)
    · obtain ⟨u, M1⟩ := s
      obtain ⟨rfl, hx, h1, h2, h3⟩ := hp
      dsimp only at hx h1 h2 h3
      have T1 := T.a hx
      have kn : M1.1 0 1 = nI n := T1.2.1.trans W.1.1
      have kB : M1.1 0 13 = nI B := T1.2.2.2.2.trans W.1.2.2.2
      have k1 : ¬ nI n ≤ nI i := nI_ge (by omega) (by omega)
      have k2 : inb (nI i) 6 = true := inb_nI (by omega) (by omega)
      obtain ⟨r, r1, r2, r3, r4, r5⟩ := e_next W T1 (show i < 6 by omega) (h2 i (by omega) hi) (hf i hi).2
      by_cases e : r ≤ B
      · have k3 : nI r ≤ nI B := nI_le e (by omega)
        exact ⟨.inr (nI i, M1), by simp only [p_Md_findNearest_L105, kn, k1, bnd_e r1, kB, k3, ↓reduceIte], i, rfl, hx, by omega, h1, h2, h3, fun _ => ⟨r, r1, r2, r4 e, r5⟩⟩
      · have k3 : ¬ nI r ≤ nI B := nI_ge (by omega) (by omega)
        refine ⟨.inl (nI (i + 1), wI M1 16 (nI i) 0), by simp only [p_Md_findNearest_L105, kn, k1, bnd_e r1, kB, k3, k2, chk_true, nm_s, nI_1, ↓reduceIte], rfl, ⟨hx.1, fun k hk => by rw [wI_ne hk]; exact hx.2 k hk⟩, fun j hj => ?_, fun j a b => ?_, fun j hj q hq hv => ?_⟩
        · dsimp only
          rw [wI_at (by omega)]
          by_cases q : j = i
          · rw [if_pos q]; rfl
          · rw [if_neg q]; exact h1 j (by omega)
        · dsimp only
          rw [wI_at (by omega), if_neg (by omega)]; exact h2 j (by omega) b
        · by_cases q2 : j = i
          · rw [q2] at hq hv
            exact r5 q hq (by have := hv.1; omega) hv
          · exact h3 j (by omega) q hq hv
    · obtain ⟨u, M1⟩ := s
      obtain ⟨rfl, hx, h1, h2, h3⟩ := hp
      dsimp only at hx h1 h2 h3
      have T1 := T.a hx
      have kn : M1.1 0 1 = nI n := T1.2.1.trans W.1.1
      have k1 : nI n ≤ nI n := nI_le (by omega) (by omega)
      exact ⟨(nI n, M1), by simp only [p_Md_findNearest_L105, kn, k1, ↓reduceIte], n, rfl, hx, by omega, h1, h2, h3, fun h => by omega⟩
  obtain ⟨⟨q, M1⟩, h1, c, rfl, h2⟩ := hq
  exact ⟨c, M1, h1, h2⟩
set_option maxHeartbeats 4000000 in
set_option maxRecDepth 100000 in
theorem e_now (W : WF n N R B V) (T : RT V M) {f : Nat → Nat} (hf : ∀ c, c < n → M.1 16 c = nI (f c) ∧ f c ≤ B) : ∃ q : Int32 × Mem, itr zfu (fun s => p_Md_findNearest_L38 s.1 s.2) ((0 : Int32), M) = some q ∧ (q.2.2 = M.2 ∧ ∀ k, k ≠ 11 → q.2.1 k = M.1 k) ∧ ∀ c, c < n → q.2.1 11 c = rw0 V f c := by
  have hb := W.2.1
  refine itr_run (σ := Int32 × Mem) (ρ := Int32 × Mem) (fun i s => s.1 = nI i ∧ (s.2.2 = M.2 ∧ ∀ k, k ≠ 11 → s.2.1 k = M.1 k) ∧ ∀ c, c < i → s.2.1 11 c = rw0 V f c) (fun q => (q.2.2 = M.2 ∧ ∀ k, k ≠ 11 → q.2.1 k = M.1 k) ∧ ∀ c, c < n → q.2.1 11 c = rw0 V f c) n (zfu_gt (by omega)) ⟨rfl, ⟨rfl, fun _ _ => rfl⟩, fun c hc => by omega⟩ (fun i s hi hp => ?_) (fun s hp => ?_)
  · obtain ⟨u, M1⟩ := s
    obtain ⟨rfl, hx, hk⟩ := hp
    dsimp only at hx hk
    have T1 : RT V M1 := T.of (fun k a b => hx.2 k (by omega)) (fun j _ => by rw [hx.2 0 (by omega)])
    have kn : M1.1 0 1 = nI n := T1.2.1.trans W.1.1
    have k1 : ¬ nI n ≤ nI i := nI_ge (by omega) (by omega)
    have k2 : inb (nI i) 6 = true := inb_nI (by omega) (by omega)
    obtain ⟨f1, f2⟩ := hf i hi
    have e16 : M1.1 16 i = nI (f i) := by rw [hx.2 16 (by omega)]; exact f1
    have k3 : inb (nI (6 * f i + i)) 36 = true := inb_nI (by omega) (by omega)
    refine ⟨.inl (nI (i + 1), wI M1 11 (nI i) (itm V (f i) i)), by simp only [p_Md_findNearest_L38, kn, k1, k2, chk_true, nI_clamp (show i < 2 ^ 31 by omega), e16, idx6, k3, nI_clamp (show 6 * f i + i < 2 ^ 31 by omega), it10 T1, nm_s, nI_1, ↓reduceIte], rfl, ⟨hx.1, fun k hk => by rw [wI_ne hk]; exact hx.2 k hk⟩, fun c hc => ?_⟩
    dsimp only
    rw [wI_at (by omega)]
    by_cases q : c = i
    · rw [if_pos q, q]; rfl
    · rw [if_neg q]; exact hk c (by omega)
  · obtain ⟨u, M1⟩ := s
    obtain ⟨rfl, hx, hk⟩ := hp
    dsimp only at hx hk
    have T1 : RT V M1 := T.of (fun k a b => hx.2 k (by omega)) (fun j _ => by rw [hx.2 0 (by omega)])
    have kn : M1.1 0 1 = nI n := T1.2.1.trans W.1.1
    have k1 : nI n ≤ nI n := nI_le (by omega) (by omega)
    exact ⟨(nI n, M1), by simp only [p_Md_findNearest_L38, kn, k1, ↓reduceIte], hx, hk⟩
end PS
