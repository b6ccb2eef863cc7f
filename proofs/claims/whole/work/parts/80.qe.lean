/-! the reference's search: next and hold -/
def fs (V : Vw) (c r : Nat) : Prop := ∀ q, q < r → ¬ itm V q c = itm V r c
def vd (B : Nat) (V : Vw) (c q : Nat) : Prop := q ≤ B ∧ (q = 0 ∨ V 9 c = 0) ∧ fs V c q
def dfn (V : Vw) (x : Nat → Int32) : Nat → Nat
  | 0 => 0
  | c + 1 => dfn V x c + (if x c = itm V 0 c then 0 else 1)
def dsn (V : Vw) (x : Nat → Int32) : Nat → Nat
  | 0 => 0
  | c + 1 => dsn V x c + dst V c (x c)
set_option maxHeartbeats 4000000 in
set_option maxRecDepth 100000 in
theorem cst_ds {V : Vw} {x : Nat → Int32} : ∀ {k : Nat}, cst V x k = 10000 * dfn V x k + dsn V x k := by
  intro k
  induction k with
  | zero => rfl
  | succ k ih =>
    simp only [cst, dfn, dsn, ci]
    by_cases e : x k = itm V 0 k
    · rw [if_pos e, if_pos e]
      have : dst V k (x k) = 0 := by unfold dst; rw [e]; omega
      omega
    · rw [if_neg e, if_neg e]; omega
set_option maxHeartbeats 4000000 in
set_option maxRecDepth 100000 in
theorem dfn_le {V : Vw} {x : Nat → Int32} : ∀ {k : Nat}, dfn V x k ≤ k := by
  intro k
  induction k with
  | zero => exact Nat.le_refl _
  | succ k ih => simp only [dfn]; split <;> omega
section PS
variable {n N R B : Nat} {V : Vw} {M : Mem}
set_option maxHeartbeats 4000000 in
set_option maxRecDepth 100000 in
theorem dsn_bd (W : WF n N R B V) {x : Nat → Int32} : ∀ {k : Nat}, k ≤ 6 → (∀ c, c < k → ch B V c (x c)) → dsn V x k ≤ k * 200 := by
  intro k
  induction k with
  | zero => intro _ _; simp [dsn]
  | succ k ih =>
    intro hk h
    have h1 := ih (by omega) (fun c hc => h c (by omega))
    have h2 := ch_bd W (by omega) (h k (by omega))
    have h3 := itm_bd W (show 0 ≤ 5 by omega) k (by omega)
    simp only [dsn, dst]; omega
set_option maxHeartbeats 4000000 in
set_option maxRecDepth 100000 in
theorem it10 (T : RT V M) {q c : Nat} : M.1 10 (6 * q + c) = itm V q c := by rw [T.1 10 (by omega) (by omega)]; rfl
set_option maxHeartbeats 4000000 in
set_option maxRecDepth 100000 in
theorem it10' (T : RT V M) {c : Nat} : M.1 10 c = itm V 0 c := by rw [T.1 10 (by omega) (by omega)]; simp [itm]
set_option maxHeartbeats 4000000 in
set_option maxRecDepth 100000 in
theorem e_fresh (T : RT V M) {c r : Nat} (hc : c < 6) (hr : r ≤ 5) : ∃ b z : Int32, itr zfu (fun s => p_Md_next_L28 (nI c) M (nI r) s.1 s.2) ((1 : Int32), (0 : Int32)) = some (b, z) ∧ ((b = 1 ∧ fs V c r) ∨ (b = 0 ∧ ¬ fs V c r)) := by
  have hq : ∃ q : Int32 × Int32, itr zfu (fun s => p_Md_next_L28 (nI c) M (nI r) s.1 s.2) ((1 : Int32), (0 : Int32)) = some q ∧ ((q.1 = 1 ∧ fs V c r) ∨ (q.1 = 0 ∧ ¬ fs V c r)) := by
    refine itr_run (σ := Int32 × Int32) (ρ := Int32 × Int32) (fun i s => s.2 = nI i ∧ ((s.1 = 1 ∧ ∀ q, q < i → ¬ itm V q c = itm V r c) ∨ (s.1 = 0 ∧ ∃ q, q < i ∧ itm V q c = itm V r c))) (fun q => (q.1 = 1 ∧ fs V c r) ∨ (q.1 = 0 ∧ ¬ fs V c r)) r (zfu_gt (by omega)) ⟨rfl, Or.inl ⟨rfl, fun q hq => by omega⟩⟩ (fun i s hi hp => ?_) (fun s hp => ?_)
    · obtain ⟨x, y⟩ := s
      obtain ⟨rfl, hp⟩ := hp
      dsimp only at hp
      have k1 : ¬ nI r ≤ nI i := nI_ge (by omega) (by omega)
      rcases hp with ⟨rfl, hp⟩ | ⟨rfl, q, hq, hp⟩
      · have k2 : inb (nI (6 * i + c)) 36 = true := inb_nI (by omega) (by omega)
        have k3 : inb (nI (6 * r + c)) 36 = true := inb_nI (by omega) (by omega)
        by_cases e : itm V i c = itm V r c
        · refine ⟨.inl (0, nI (i + 1)), ?_, rfl, Or.inr ⟨rfl, i, by omega, e⟩⟩
          simp only [p_Md_next_L28, k1, one_ne, idx6, k2, k3, chk_true, nI_clamp (show 6 * i + c < 2 ^ 31 by omega), nI_clamp (show 6 * r + c < 2 ^ 31 by omega), it10 T, e, nI_1, ↓reduceIte]
        · refine ⟨.inl (1, nI (i + 1)), ?_, rfl, Or.inl ⟨rfl, fun q hq => ?_⟩⟩
          · simp only [p_Md_next_L28, k1, one_ne, idx6, k2, k3, chk_true, nI_clamp (show 6 * i + c < 2 ^ 31 by omega), nI_clamp (show 6 * r + c < 2 ^ 31 by omega), it10 T, e, nI_1, ↓reduceIte]
          · by_cases e2 : q = i
            · rw [e2]; exact e
            · exact hp q (by omega)
      · refine ⟨.inl (0, nI (i + 1)), ?_, rfl, Or.inr ⟨rfl, q, by omega, hp⟩⟩
        simp only [p_Md_next_L28, k1, nI_1, ↓reduceIte]
    · obtain ⟨x, y⟩ := s
      obtain ⟨rfl, hp⟩ := hp
      dsimp only at hp
      have k1 : nI r ≤ nI r := nI_le (by omega) (by omega)
      refine ⟨(x, nI r), by simp only [p_Md_next_L28, k1, ↓reduceIte], ?_⟩
      rcases hp with ⟨h, hp⟩ | ⟨h, q, hq, hp⟩
      · exact Or.inl ⟨h, hp⟩
      · exact Or.inr ⟨h, fun q' => q' q hq hp⟩
  obtain ⟨⟨b, z⟩, h1, h2⟩ := hq
  exact ⟨b, z, h1, h2⟩
set_option maxHeartbeats 4000000 in
set_option maxRecDepth 100000 in
theorem e_next (W : WF n N R B V) (T : RT V M) {c f : Nat} (hc : c < 6) (h16 : M.1 16 c = nI f) (hf : f ≤ B) : ∃ r, p_Md_next (nI c) M = some (nI r) ∧ f < r ∧ r ≤ B + 1 ∧ (r ≤ B → vd B V c r) ∧ ∀ q, f < q → q < r → ¬ vd B V c q := by
  have hb := W.2.1
  have kc := nI_clamp (show c < 2 ^ 31 by omega)
  have ic : inb (nI c) 6 = true := inb_nI hc (by omega)
  have kB : M.1 0 13 = nI B := T.2.2.2.2.trans W.1.2.2.2
  have hq : ∃ q : Int32 × Int32, itr zfu (fun s => p_Md_next_L11 (nI c) M s.1 s.2) (nI (f + 1), (0 : Int32)) = some q ∧ ∃ r, q.1 = nI r ∧ f < r ∧ r ≤ B + 1 ∧ (r ≤ B → fs V c r) ∧ ∀ q, f < q → q < r → ¬ fs V c q := by
    refine itr_run (σ := Int32 × Int32) (ρ := Int32 × Int32) (fun i s => (s.2 = 0 ∧ s.1 = nI (f + 1 + i) ∧ f + 1 + i ≤ B + 1 ∧ ∀ q, f < q → q < f + 1 + i → ¬ fs V c q) ∨ (s.2 = 1 ∧ ∃ r, s.1 = nI r ∧ f < r ∧ r ≤ B ∧ fs V c r ∧ ∀ q, f < q → q < r → ¬ fs V c q)) (fun q => ∃ r, q.1 = nI r ∧ f < r ∧ r ≤ B + 1 ∧ (r ≤ B → fs V c r) ∧ ∀ q, f < q → q < r → ¬ fs V c q) (B + 1) (zfu_gt (by omega)) (Or.inl ⟨rfl, rfl, by omega, fun q h1 h2 => by omega⟩) (fun i s hi hp => ?_) (fun s hp => ?_)
    · obtain ⟨x, y⟩ := s
      rcases hp with ⟨rfl, rfl, h1, h2⟩ | ⟨rfl, r, rfl, h1, h2, h3, h4⟩
      · by_cases e : f + 1 + i = B + 1
        · refine ⟨.inr (nI (f + 1 + i), 0), ?_, f + 1 + i, rfl, by omega, h1, fun h => by omega, h2⟩
          have k1 : nI B < nI (f + 1 + i) := nI_lt (by omega) (by omega)
          simp only [p_Md_next_L11, kB, k1, ↓reduceIte]
        · have k1 : ¬ nI B < nI (f + 1 + i) := nI_nlt (by omega) (by omega)
          obtain ⟨b, z, e1, e2⟩ := e_fresh T hc (show f + 1 + i ≤ 5 by omega)
          rcases e2 with ⟨rfl, e2⟩ | ⟨rfl, e2⟩
          · refine ⟨.inl (nI (f + 1 + i), 1), ?_, Or.inr ⟨rfl, f + 1 + i, rfl, by omega, by omega, e2, h2⟩⟩
            simp only [p_Md_next_L11, kB, k1, bnd_e e1, one_ne, Int32.add_zero, ↓reduceIte]
          · refine ⟨.inl (nI (f + 1 + (i + 1)), 0), ?_, Or.inl ⟨rfl, rfl, by omega, fun q a b => ?_⟩⟩
            · simp only [p_Md_next_L11, kB, k1, bnd_e e1, nI_1, ↓reduceIte]
              rfl
            · by_cases e3 : q = f + 1 + i
              · rw [e3]; exact e2
              · exact h2 q a (by omega)
      · refine ⟨.inr (nI r, 1), ?_, r, rfl, h1, by omega, fun _ => h3, h4⟩
        have k1 : ¬ nI B < nI r := nI_nlt (by omega) (by omega)
        simp only [p_Md_next_L11, kB, k1, one_ne, ↓reduceIte]
    · obtain ⟨x, y⟩ := s
      rcases hp with ⟨rfl, rfl, h1, h2⟩ | ⟨rfl, r, rfl, h1, h2, h3, h4⟩
      · omega
      · refine ⟨(nI r, 1), ?_, r, rfl, h1, by omega, fun _ => h3, h4⟩
        have k1 : ¬ nI B < nI r := nI_nlt (by omega) (by omega)
        simp only [p_Md_next_L11, kB, k1, one_ne, ↓reduceIte]
  obtain ⟨q, h1, r, h2, h3, h4, h5, h6⟩ := hq
  unfold p_Md_next
  rw [chk_t ic, kc, h16, nI_1, bnd_e h1, chk_t ic, T.1 9 (by omega) (by omega), kB, h2, nI_1]
  by_cases e : V 9 c = 0
  · rw [if_pos e]
    exact ⟨r, rfl, h3, h4, fun h => ⟨h, Or.inr e, h5 h⟩, fun q a b h => h6 q a b h.2.2⟩
  · rw [if_neg e]
    exact ⟨B + 1, rfl, by omega, by omega, fun h => by omega, fun q a b h => by
      rcases h.2.1 with h | h
      · omega
      · exact e h⟩
def XH (M M' : Mem) : Prop := M'.2 = M.2 ∧ (∀ k, k ≠ 0 → k ≠ 17 → M'.1 k = M.1 k) ∧ ∀ j, j ≠ 23 → j ≠ 24 → M'.1 0 j = M.1 0 j
set_option maxHeartbeats 4000000 in
set_option maxRecDepth 100000 in
theorem RT.h {M' : Mem} (T : RT V M) (h : XH M M') : RT V M' := T.of (fun k a b => h.2.1 k (by omega) (by omega)) (fun j hj => h.2.2 j (by omega) (by omega))
set_option maxHeartbeats 4000000 in
set_option maxRecDepth 100000 in
theorem e_hold10 (W : WF n N R B V) (T : RT V M) {x : Nat → Int32} (hc : cand n B V x) (h11 : ∀ c, c < n → M.1 11 c = x c) : ∃ (z : Int32) (y : Int32), itr zfu (fun s => p_Md_hold_L10 M s.1 s.2.1 s.2.2.1 s.2.2.2) ((0 : Int32), (0 : Int32), (0 : Int32), (0 : Int32)) = some (nI (dfn V x n), nI (dsn V x n), z, y) ∧ ((∀ c, c < n → -100 ≤ (M.1 17 c).toInt ∧ (M.1 17 c).toInt ≤ 100) → (0 ≤ z ↔ ¬ lx n x (M.1 17))) := by
  have hb := W.2.1
  have kn : M.1 0 1 = nI n := T.2.1.trans W.1.1
  have hq : ∃ q : Int32 × Int32 × Int32 × Int32, itr zfu (fun s => p_Md_hold_L10 M s.1 s.2.1 s.2.2.1 s.2.2.2) ((0 : Int32), (0 : Int32), (0 : Int32), (0 : Int32)) = some q ∧ q.1 = nI (dfn V x n) ∧ q.2.1 = nI (dsn V x n) ∧ ((q.2.2.1 = 0 ∧ eqn n x (M.1 17)) ∨ ∃ c, c < n ∧ eqn c x (M.1 17) ∧ ¬ x c - M.1 17 c = 0 ∧ q.2.2.1 = x c - M.1 17 c) := by
    refine itr_run (σ := Int32 × Int32 × Int32 × Int32) (ρ := Int32 × Int32 × Int32 × Int32) (fun i s => s.2.2.2 = nI i ∧ s.1 = nI (dfn V x i) ∧ s.2.1 = nI (dsn V x i) ∧ ((s.2.2.1 = 0 ∧ eqn i x (M.1 17)) ∨ ∃ c, c < i ∧ eqn c x (M.1 17) ∧ ¬ x c - M.1 17 c = 0 ∧ s.2.2.1 = x c - M.1 17 c)) (fun q => q.1 = nI (dfn V x n) ∧ q.2.1 = nI (dsn V x n) ∧ ((q.2.2.1 = 0 ∧ eqn n x (M.1 17)) ∨ ∃ c, c < n ∧ eqn c x (M.1 17) ∧ ¬ x c - M.1 17 c = 0 ∧ q.2.2.1 = x c - M.1 17 c)) n (zfu_gt (by omega)) ⟨rfl, rfl, rfl, Or.inl ⟨rfl, fun c hc => by omega⟩⟩ (fun i s hi hp => ?_) (fun s hp => ?_)
    · obtain ⟨u1, u2, u3, u4⟩ := s
      obtain ⟨rfl, rfl, rfl, hp⟩ := hp
      dsimp only at hp
      have k1 : ¬ nI n ≤ nI i := nI_ge (by omega) (by omega)
      have k2 : inb (nI i) 6 = true := inb_nI (by omega) (by omega)
      have k3 : inb (nI i) 36 = true := inb_nI (by omega) (by omega)
      have b1 := ch_bd W (by omega) (hc i hi)
      have b2 := itm_bd W (show 0 ≤ 5 by omega) i (by omega)
      have es := sub_toI b1 b2
      have z0 : x i - itm V 0 i = 0 ↔ x i = itm V 0 i := by
        rw [← Int32.toInt_inj, ← Int32.toInt_inj, es, show (0 : Int32).toInt = 0 from rfl]; omega
      have ea := abs_nI (x := x i - itm V 0 i) (by omega) (by omega)
      rw [es, Int32.zero_sub] at ea
      have ed : nI (dsn V x i) + nI (x i - itm V 0 i).toInt.natAbs = nI (dsn V x (i + 1)) := by rw [nI_add, es]; rfl
      rw [es] at ed
      have h0 : ∀ y : Int32, y + 0 = y := fun y => Int32.add_zero y
      have n17 : ∀ v : Int32, v = x i - M.1 17 i → (v = 0 → x i = M.1 17 i) := fun v h1 h2 => by
        have : x i - M.1 17 i = 0 := h1.symm.trans h2
        have h3 := congrArg (· + M.1 17 i) this
        rwa [Int32.sub_add_cancel, Int32.zero_add] at h3
      have upd0 : eqn i x (M.1 17) → ((x i - M.1 17 i = 0 ∧ eqn (i + 1) x (M.1 17)) ∨ ∃ c, c < i + 1 ∧ eqn c x (M.1 17) ∧ ¬ x c - M.1 17 c = 0 ∧ x i - M.1 17 i = x c - M.1 17 c) := fun he => by
        by_cases e : x i - M.1 17 i = 0
        · refine Or.inl ⟨e, fun c hc => ?_⟩
          by_cases e2 : c = i
          · rw [e2]; exact n17 _ rfl e
          · exact he c (by omega)
        · exact Or.inr ⟨i, by omega, he, e, rfl⟩
      have key : ∀ v : Int32, ((v = 0 ∧ eqn (i + 1) x (M.1 17)) ∨ ∃ c, c < i + 1 ∧ eqn c x (M.1 17) ∧ ¬ x c - M.1 17 c = 0 ∧ v = x c - M.1 17 c) → p_Md_hold_L10 M (nI (dfn V x i)) (nI (dsn V x i)) u3 (nI i) = some (.inl (nI (dfn V x (i + 1)), nI (dsn V x (i + 1)), v, nI (i + 1))) → ∃ x_1, p_Md_hold_L10 M (nI (dfn V x i)) (nI (dsn V x i)) u3 (nI i) = some x_1 ∧ zEx (fun s : Int32 × Int32 × Int32 × Int32 => s.2.2.2 = nI (i + 1) ∧ s.1 = nI (dfn V x (i + 1)) ∧ s.2.1 = nI (dsn V x (i + 1)) ∧ ((s.2.2.1 = 0 ∧ eqn (i + 1) x (M.1 17)) ∨ ∃ c, c < (i + 1) ∧ eqn c x (M.1 17) ∧ ¬ x c - M.1 17 c = 0 ∧ s.2.2.1 = x c - M.1 17 c)) (fun q : Int32 × Int32 × Int32 × Int32 => q.1 = nI (dfn V x n) ∧ q.2.1 = nI (dsn V x n) ∧ ((q.2.2.1 = 0 ∧ eqn n x (M.1 17)) ∨ ∃ c, c < n ∧ eqn c x (M.1 17) ∧ ¬ x c - M.1 17 c = 0 ∧ q.2.2.1 = x c - M.1 17 c)) x_1 := fun v hv he => ⟨_, he, rfl, rfl, rfl, hv⟩
      have d0 : x i = itm V 0 i → nI (dfn V x i) = nI (dfn V x (i + 1)) := fun e => by simp only [dfn]; rw [if_pos e]; rfl
      have d1 : ¬ x i = itm V 0 i → nI (dfn V x i + 1) = nI (dfn V x (i + 1)) := fun e => by simp only [dfn]; rw [if_neg e]
      have step : p_Md_hold_L10 M (nI (dfn V x i)) (nI (dsn V x i)) u3 (nI i) = some (.inl (nI (dfn V x (i + 1)), nI (dsn V x (i + 1)), (if u3 = 0 then x i - M.1 17 i else u3), nI (i + 1))) := by
        rw [← ed, ← ea]
        simp only [p_Md_hold_L10, kn, k1, k2, k3, chk_true, nI_clamp (show i < 2 ^ 31 by omega), h11 i hi, it10' T, z0, h0, nI_1, ↓reduceIte]
        by_cases e : x i = itm V 0 i
        · rw [if_pos e, d0 e]
          by_cases e1 : 0 ≤ x i - itm V 0 i
          · simp only [e1, ↓reduceIte]; split <;> rfl
          · simp only [e1, ↓reduceIte]; split <;> rfl
        · rw [if_neg e, d1 e]
          by_cases e1 : 0 ≤ x i - itm V 0 i
          · simp only [e1, ↓reduceIte]; split <;> rfl
          · simp only [e1, ↓reduceIte]; split <;> rfl
      refine key _ ?_ step
      rcases hp with ⟨rfl, hp⟩ | ⟨c, c1, c2, c3, c4⟩
      · rw [if_pos rfl]; exact upd0 hp
      · rw [if_neg (by rw [c4]; exact c3)]
        exact Or.inr ⟨c, by omega, c2, c3, c4⟩
    · obtain ⟨u1, u2, u3, u4⟩ := s
      obtain ⟨rfl, rfl, rfl, hp⟩ := hp
      dsimp only at hp
      have k1 : nI n ≤ nI n := nI_le (by omega) (by omega)
      exact ⟨(nI (dfn V x n), nI (dsn V x n), u3, nI n), by simp only [p_Md_hold_L10, kn, k1, ↓reduceIte], rfl, rfl, hp⟩
  obtain ⟨⟨u1, u2, u3, u4⟩, h1, rfl, rfl, h2⟩ := hq
  refine ⟨u3, u4, h1, fun hbd => ?_⟩
  dsimp only at h2
  rcases h2 with ⟨rfl, h2⟩ | ⟨c, c1, c2, c3, rfl⟩
  · exact ⟨fun _ => lx_ir h2, fun _ => z_0l0⟩
  · have es := sub_toI (ch_bd W (by omega) (hc c c1)) (hbd c c1)
    have c3' : ¬ (x c).toInt - (M.1 17 c).toInt = 0 := fun q => c3 (Int32.toInt_inj.mp (by rw [es, q]; rfl))
    rw [Int32.le_iff_toInt_le, es, show (0 : Int32).toInt = 0 from rfl]
    refine ⟨fun h ⟨d, d1, d2, d3⟩ => ?_, fun h => ?_⟩
    · rcases Nat.lt_trichotomy c d with e | e | e
      · have := d2 c e; rw [this] at c3'; omega
      · rw [e] at c3' h; omega
      · have := c2 d e; rw [this] at d3; omega
    · by_cases e : (x c).toInt < (M.1 17 c).toInt
      · exact absurd ⟨c, c1, c2, e⟩ h
      · omega
set_option maxHeartbeats 4000000 in
set_option maxRecDepth 100000 in
theorem e_hold152 (W : WF n N R B V) {M0 : Mem} (T : RT V M0) {x : Nat → Int32} {d s : Int32} (h11 : ∀ c, c < n → M0.1 11 c = x c) : ∃ q : Int32 × Mem, itr zfu (fun s => p_Md_hold_L152 s.1 s.2) ((0 : Int32), wF (wF M0 0 23 d) 0 24 s) = some q ∧ XH M0 q.2 ∧ q.2.1 0 23 = d ∧ q.2.1 0 24 = s ∧ ∀ c, c < n → q.2.1 17 c = x c := by
  have hb := W.2.1
  have x0 : XH M0 (wF (wF M0 0 23 d) 0 24 s) := ⟨rfl, fun k a _ => by rw [wF_ne a, wF_ne a], fun j a b => by rw [wF_o b, wF_o a]⟩
  refine itr_run (σ := Int32 × Mem) (ρ := Int32 × Mem) (fun i t => t.1 = nI i ∧ XH M0 t.2 ∧ t.2.1 0 23 = d ∧ t.2.1 0 24 = s ∧ ∀ c, c < i → t.2.1 17 c = x c) (fun q => XH M0 q.2 ∧ q.2.1 0 23 = d ∧ q.2.1 0 24 = s ∧ ∀ c, c < n → q.2.1 17 c = x c) n (zfu_gt (by omega)) ⟨rfl, x0, by dsimp only; rw [wF_o (by omega)]; exact wF_at, wF_at, fun c hc => by omega⟩ (fun i t hi hp => ?_) (fun t hp => ?_)
  · obtain ⟨u, M1⟩ := t
    obtain ⟨rfl, hx, h23, h24, hk⟩ := hp
    dsimp only at hx h23 h24 hk
    have T1 := T.h hx
    have kn : M1.1 0 1 = nI n := T1.2.1.trans W.1.1
    have k1 : ¬ nI n ≤ nI i := nI_ge (by omega) (by omega)
    have k2 : inb (nI i) 6 = true := inb_nI (by omega) (by omega)
    have e11 : M1.1 11 i = x i := by rw [hx.2.1 11 (by omega) (by omega)]; exact h11 i hi
    refine ⟨.inl (nI (i + 1), wI M1 17 (nI i) (x i)), ?_, rfl, ⟨hx.1, fun k a b => by rw [wI_ne b]; exact hx.2.1 k a b, fun j a b => by rw [wI_ne (by omega : 0 ≠ 17)]; exact hx.2.2 j a b⟩, ?_, ?_, fun c hc => ?_⟩
    · simp only [p_Md_hold_L152, kn, k1, k2, chk_true, nm_s, nI_clamp (show i < 2 ^ 31 by omega), e11, nI_1, ↓reduceIte]
    · dsimp only; rw [wI_ne (by omega : 0 ≠ 17)]; exact h23
    · dsimp only; rw [wI_ne (by omega : 0 ≠ 17)]; exact h24
    · dsimp only
      rw [wI_at (by omega)]
      by_cases e : c = i
      · rw [if_pos e, e]
      · rw [if_neg e]; exact hk c (by omega)
  · obtain ⟨u, M1⟩ := t
    obtain ⟨rfl, hx, h23, h24, hk⟩ := hp
    dsimp only at hx h23 h24 hk
    have T1 := T.h hx
    have kn : M1.1 0 1 = nI n := T1.2.1.trans W.1.1
    have k1 : nI n ≤ nI n := nI_le (by omega) (by omega)
    exact ⟨(nI n, M1), by simp only [p_Md_hold_L152, kn, k1, ↓reduceIte], hx, h23, h24, hk⟩
end PS
