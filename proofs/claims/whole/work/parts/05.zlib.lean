/-! pure pieces: a guarded value, a bind, a name, a loop with fuel -/
def inb (i : Int32) (n : Nat) : Bool := !(decide (i < 0)) && decide (i.toNatClampNeg < n)
theorem inb_in {i : Int32} {n : Nat} (h : inb i n = true) : vp_in i n := by
  simp only [inb, Bool.and_eq_true, Bool.not_eq_true', decide_eq_false_iff_not, decide_eq_true_eq] at h
  intro q
  rcases q with q | q
  · exact h.1 q
  · exact Nat.not_le.mpr h.2 q
theorem inb_pos {i : Int32} {n : Nat} (h : inb i n = true) : 0 < n := by
  simp only [inb, Bool.and_eq_true, decide_eq_true_eq] at h
  omega
def chk {α : Type} (b : Bool) (k : Option α) : Option α := match b with
  | true => k
  | false => none
theorem chk_some {α : Type} {b : Bool} {k : Option α} {r : α} (h : chk b k = some r) : b = true ∧ k = some r := by
  cases b with
  | true => exact ⟨rfl, h⟩
  | false => cases h
def bnd {α β : Type} (x : Option α) (f : α → Option β) : Option β := match x with
  | none => none
  | some a => f a
theorem bnd_some {α β : Type} {x : Option α} {f : α → Option β} {r : β} (h : bnd x f = some r) : ∃ a, x = some a ∧ f a = some r := by
  cases x with
  | none => cases h
  | some a => exact ⟨a, rfl, h⟩
def nm {α β : Type} (x : α) (f : α → Option β) : Option β := f x
theorem nm_some {α β : Type} {x : α} {f : α → Option β} {r : β} (h : nm x f = some r) : ∃ y, x = y ∧ f y = some r := ⟨x, rfl, h⟩
def itr {σ ρ : Type} : Nat → (σ → Option (σ ⊕ ρ)) → σ → Option ρ
  | 0, _, _ => none
  | n + 1, f, s => match f s with
    | none => none
    | some (.inl t) => itr n f t
    | some (.inr r) => some r
def zEx {σ ρ : Type} (At : σ → Prop) (Ex : ρ → Prop) (x : σ ⊕ ρ) : Prop := match x with
  | .inl t => At t
  | .inr r => Ex r
theorem W_itr {σ ρ : Type} {f : σ → Option (σ ⊕ ρ)} {At : σ → Prop} {Ex : ρ → Prop} (hs : ∀ (s : σ) (x : σ ⊕ ρ), f s = some x → zEx At Ex x → At s) :
    ∀ (n : Nat) (s : σ) (r : ρ), itr n f s = some r → Ex r → At s := by
  intro n
  induction n with
  | zero => intro s r h; cases h
  | succ n ih =>
    intro s r h hr
    unfold itr at h
    cases hf : f s with
    | none => rw [hf] at h; cases h
    | some x =>
      rw [hf] at h
      cases x with
      | inl t => exact hs s _ hf (ih t r h hr)
      | inr q => cases h; exact hs s _ hf hr
def zfu : Nat := 100000
def zush (x y : Int32) : Int32 := (x.toUInt32 >>> (y.toUInt32 &&& Int32.toUInt32 31)).toInt32
def zlsh (x : Int64) (y : Int32) : Int64 := x <<< (y.toInt64 &&& 63)
abbrev Mem : Type := (Nat → Nat → Int32) × (Nat → Nat → Int64)
def wI (M : Mem) (k : Nat) (i : Int32) (v : Int32) : Mem := (fun j => if j = k then upd (M.1 k) i.toNatClampNeg v else M.1 j, M.2)
def wL (M : Mem) (k : Nat) (i : Int32) (v : Int64) : Mem := (M.1, fun j => if j = k then vp_updL (M.2 k) i.toNatClampNeg v else M.2 j)
def wF (M : Mem) (k j : Nat) (v : Int32) : Mem := (fun q => if q = k then upd (M.1 k) j v else M.1 q, M.2)
abbrev zG : Type := (Nat → Nat) × (Nat → ClassId) × va_G
def zbl (v : Int32) : Bool := decide (v &&& 1 = v)
theorem zbl_ok {v : Int32} (h : zbl v = true) : narrow .boolean (.int v) = .int v := congrArg Value.int (of_decide_eq_true h)

def zty (G : zG) : List (ClassId × FieldType) := [(G.2.1 0, .int), (G.2.1 1, .long), (G.2.1 2, .boolean), (G.2.1 3, .array .int)]
def zNest : Cond := Cond.methodLinkNest R_Me 86 y_ES_factorial R_ES
def zK (G : zG) (U : State) : Prop := va_K G.2.2 zcl (zty G) U ∧ va_Nw zNest U
theorem zK_same {G : zG} {u U : State} (h : u.vm = U.vm) (hK : zK G u) : zK G U := ⟨va_K.moved (h ▸ Vm.Alike.refl u.vm) hK.1, va_Nw.same rfl h hK.2⟩
theorem zK_warm {G : zG} {s U : State} (hW : s.WarmedH U.vm) (hK : zK G s) : zK G U := ⟨va_K.moved hW.alike hK.1, va_Nw.warmM hW hK.2⟩
def wlC (G : zG) (M : Mem) : va_W := [(G.1 0, .inr (6, [.int (M.1 0 0), .ref (G.1 1), .ref (G.1 9), .ref (G.1 17), .ref (G.1 19), .ref (G.1 24)])),
  (G.1 1, .inr (0, [.ref (G.1 2), .ref (G.1 3), .ref (G.1 4), .ref (G.1 5), .ref (G.1 6), .ref (G.1 7), .ref (G.1 8), .int (M.1 1 7), .int (M.1 1 8)])),
  (G.1 2, .inl (G.2.1 0, 30, .inl (M.1 2))),
  (G.1 3, .inl (G.2.1 0, 30, .inl (M.1 3))),
  (G.1 4, .inl (G.2.1 0, 30, .inl (M.1 4))),
  (G.1 5, .inl (G.2.1 0, 30, .inl (M.1 5))),
  (G.1 6, .inl (G.2.1 0, 30, .inl (M.1 6))),
  (G.1 7, .inl (G.2.1 0, 4, .inl (M.1 7))),
  (G.1 8, .inl (G.2.1 0, 6, .inl (M.1 8))),
  (G.1 9, .inr (1, [.ref (G.1 10), .ref (G.1 11), .int (M.1 9 2)])),
  (G.1 10, .inl (G.2.1 0, 6, .inl (M.1 10))),
  (G.1 11, .inl (G.2.1 3, 5, .inr (.inr (.inr (.inr (fun i => some (G.1 (12 + i)))))))),
  (G.1 12, .inl (G.2.1 0, 6, .inl (M.1 12))),
  (G.1 13, .inl (G.2.1 0, 6, .inl (M.1 13))),
  (G.1 14, .inl (G.2.1 0, 6, .inl (M.1 14))),
  (G.1 15, .inl (G.2.1 0, 6, .inl (M.1 15))),
  (G.1 16, .inl (G.2.1 0, 6, .inl (M.1 16))),
  (G.1 17, .inr (2, [.int (M.1 17 0), .ref (G.1 18)])),
  (G.1 18, .inl (G.2.1 0, 6, .inl (M.1 18))),
  (G.1 19, .inr (4, [.ref (G.1 1), .ref (G.1 9), .ref (G.1 17), .ref (G.1 22), .ref (G.1 20), .ref (G.1 21)])),
  (G.1 20, .inl (G.2.1 0, 6, .inl (M.1 20))),
  (G.1 21, .inl (G.2.1 1, 6, .inr (.inl (M.2 21)))),
  (G.1 22, .inr (3, [.ref (G.1 17), .ref (G.1 23), .int (M.1 22 2), .int (M.1 22 3)])),
  (G.1 23, .inl (G.2.1 0, 6, .inl (M.1 23))),
  (G.1 24, .inr (5, [.int (M.1 24 0), .ref (G.1 1), .ref (G.1 9), .ref (G.1 25), .ref (G.1 26), .ref (G.1 33), .ref (G.1 34), .ref (G.1 35), .ref (G.1 36), .int (M.1 24 9), .int (M.1 24 10)])),
  (G.1 25, .inl (G.2.1 2, 6, .inl (M.1 25))),
  (G.1 26, .inl (G.2.1 3, 6, .inr (.inr (.inr (.inr (fun i => some (G.1 (27 + i)))))))),
  (G.1 27, .inl (G.2.1 0, 6, .inl (M.1 27))),
  (G.1 28, .inl (G.2.1 0, 6, .inl (M.1 28))),
  (G.1 29, .inl (G.2.1 0, 6, .inl (M.1 29))),
  (G.1 30, .inl (G.2.1 0, 6, .inl (M.1 30))),
  (G.1 31, .inl (G.2.1 0, 6, .inl (M.1 31))),
  (G.1 32, .inl (G.2.1 0, 6, .inl (M.1 32))),
  (G.1 33, .inl (G.2.1 0, 6, .inl (M.1 33))),
  (G.1 34, .inl (G.2.1 0, 6, .inl (M.1 34))),
  (G.1 35, .inl (G.2.1 0, 6, .inl (M.1 35))),
  (G.1 36, .inl (G.2.1 0, 6, .inl (M.1 36)))]
def alenC (k : Nat) : Nat := match k with
  | 2 => 30
  | 3 => 30
  | 4 => 30
  | 5 => 30
  | 6 => 30
  | 7 => 4
  | 8 => 6
  | 10 => 6
  | 12 => 6
  | 13 => 6
  | 14 => 6
  | 15 => 6
  | 16 => 6
  | 18 => 6
  | 20 => 6
  | 23 => 6
  | 27 => 6
  | 28 => 6
  | 29 => 6
  | 30 => 6
  | 31 => 6
  | 32 => 6
  | 33 => 6
  | 34 => 6
  | 35 => 6
  | 36 => 6
  | _ => 0
def blenC (k : Nat) : Nat := match k with
  | 25 => 6
  | _ => 0
def llenC (k : Nat) : Nat := match k with
  | 21 => 6
  | _ => 0
theorem wlAC (G : zG) (M : Mem) (k : Nat) (q : Nat × va_E) (h : (wlC G M)[k]? = some q) : q.1 = G.1 k ∧ k < 37 := by
  match k, h with
  | 0, h => cases h; exact ⟨rfl, by decide⟩
  | 1, h => cases h; exact ⟨rfl, by decide⟩
  | 2, h => cases h; exact ⟨rfl, by decide⟩
  | 3, h => cases h; exact ⟨rfl, by decide⟩
  | 4, h => cases h; exact ⟨rfl, by decide⟩
  | 5, h => cases h; exact ⟨rfl, by decide⟩
  | 6, h => cases h; exact ⟨rfl, by decide⟩
  | 7, h => cases h; exact ⟨rfl, by decide⟩
  | 8, h => cases h; exact ⟨rfl, by decide⟩
  | 9, h => cases h; exact ⟨rfl, by decide⟩
  | 10, h => cases h; exact ⟨rfl, by decide⟩
  | 11, h => cases h; exact ⟨rfl, by decide⟩
  | 12, h => cases h; exact ⟨rfl, by decide⟩
  | 13, h => cases h; exact ⟨rfl, by decide⟩
  | 14, h => cases h; exact ⟨rfl, by decide⟩
  | 15, h => cases h; exact ⟨rfl, by decide⟩
  | 16, h => cases h; exact ⟨rfl, by decide⟩
  | 17, h => cases h; exact ⟨rfl, by decide⟩
  | 18, h => cases h; exact ⟨rfl, by decide⟩
  | 19, h => cases h; exact ⟨rfl, by decide⟩
  | 20, h => cases h; exact ⟨rfl, by decide⟩
  | 21, h => cases h; exact ⟨rfl, by decide⟩
  | 22, h => cases h; exact ⟨rfl, by decide⟩
  | 23, h => cases h; exact ⟨rfl, by decide⟩
  | 24, h => cases h; exact ⟨rfl, by decide⟩
  | 25, h => cases h; exact ⟨rfl, by decide⟩
  | 26, h => cases h; exact ⟨rfl, by decide⟩
  | 27, h => cases h; exact ⟨rfl, by decide⟩
  | 28, h => cases h; exact ⟨rfl, by decide⟩
  | 29, h => cases h; exact ⟨rfl, by decide⟩
  | 30, h => cases h; exact ⟨rfl, by decide⟩
  | 31, h => cases h; exact ⟨rfl, by decide⟩
  | 32, h => cases h; exact ⟨rfl, by decide⟩
  | 33, h => cases h; exact ⟨rfl, by decide⟩
  | 34, h => cases h; exact ⟨rfl, by decide⟩
  | 35, h => cases h; exact ⟨rfl, by decide⟩
  | 36, h => cases h; exact ⟨rfl, by decide⟩
  | k + 37, h => cases h
theorem wl_iC (G : zG) (M : Mem) (k : Nat) (h : 0 < alenC k) : (wlC G M)[k]? = some (G.1 k, .inl (G.2.1 0, alenC k, .inl (M.1 k))) := by
  match k, h with
  | 0, h => exact absurd h (by decide)
  | 1, h => exact absurd h (by decide)
  | 2, h => rfl
  | 3, h => rfl
  | 4, h => rfl
  | 5, h => rfl
  | 6, h => rfl
  | 7, h => rfl
  | 8, h => rfl
  | 9, h => exact absurd h (by decide)
  | 10, h => rfl
  | 11, h => exact absurd h (by decide)
  | 12, h => rfl
  | 13, h => rfl
  | 14, h => rfl
  | 15, h => rfl
  | 16, h => rfl
  | 17, h => exact absurd h (by decide)
  | 18, h => rfl
  | 19, h => exact absurd h (by decide)
  | 20, h => rfl
  | 21, h => exact absurd h (by decide)
  | 22, h => exact absurd h (by decide)
  | 23, h => rfl
  | 24, h => exact absurd h (by decide)
  | 25, h => exact absurd h (by decide)
  | 26, h => exact absurd h (by decide)
  | 27, h => rfl
  | 28, h => rfl
  | 29, h => rfl
  | 30, h => rfl
  | 31, h => rfl
  | 32, h => rfl
  | 33, h => rfl
  | 34, h => rfl
  | 35, h => rfl
  | 36, h => rfl
  | k + 37, h => exact absurd h (by simp [alenC])
theorem wl_siC (G : zG) (M : Mem) (k : Nat) (i : Int32) (v : Int32) (h : 0 < alenC k) : (wlC G M).set k (G.1 k, .inl (G.2.1 0, alenC k, .inl (upd (M.1 k) i.toNatClampNeg v))) = wlC G (wI M k i v) := by
  match k, h with
  | 0, h => exact absurd h (by decide)
  | 1, h => exact absurd h (by decide)
  | 2, h => rfl
  | 3, h => rfl
  | 4, h => rfl
  | 5, h => rfl
  | 6, h => rfl
  | 7, h => rfl
  | 8, h => rfl
  | 9, h => exact absurd h (by decide)
  | 10, h => rfl
  | 11, h => exact absurd h (by decide)
  | 12, h => rfl
  | 13, h => rfl
  | 14, h => rfl
  | 15, h => rfl
  | 16, h => rfl
  | 17, h => exact absurd h (by decide)
  | 18, h => rfl
  | 19, h => exact absurd h (by decide)
  | 20, h => rfl
  | 21, h => exact absurd h (by decide)
  | 22, h => exact absurd h (by decide)
  | 23, h => rfl
  | 24, h => exact absurd h (by decide)
  | 25, h => exact absurd h (by decide)
  | 26, h => exact absurd h (by decide)
  | 27, h => rfl
  | 28, h => rfl
  | 29, h => rfl
  | 30, h => rfl
  | 31, h => rfl
  | 32, h => rfl
  | 33, h => rfl
  | 34, h => rfl
  | 35, h => rfl
  | 36, h => rfl
  | k + 37, h => exact absurd h (by simp [alenC])
theorem wl_bC (G : zG) (M : Mem) (k : Nat) (h : 0 < blenC k) : (wlC G M)[k]? = some (G.1 k, .inl (G.2.1 2, blenC k, .inl (M.1 k))) := by
  match k, h with
  | 0, h => exact absurd h (by decide)
  | 1, h => exact absurd h (by decide)
  | 2, h => exact absurd h (by decide)
  | 3, h => exact absurd h (by decide)
  | 4, h => exact absurd h (by decide)
  | 5, h => exact absurd h (by decide)
  | 6, h => exact absurd h (by decide)
  | 7, h => exact absurd h (by decide)
  | 8, h => exact absurd h (by decide)
  | 9, h => exact absurd h (by decide)
  | 10, h => exact absurd h (by decide)
  | 11, h => exact absurd h (by decide)
  | 12, h => exact absurd h (by decide)
  | 13, h => exact absurd h (by decide)
  | 14, h => exact absurd h (by decide)
  | 15, h => exact absurd h (by decide)
  | 16, h => exact absurd h (by decide)
  | 17, h => exact absurd h (by decide)
  | 18, h => exact absurd h (by decide)
  | 19, h => exact absurd h (by decide)
  | 20, h => exact absurd h (by decide)
  | 21, h => exact absurd h (by decide)
  | 22, h => exact absurd h (by decide)
  | 23, h => exact absurd h (by decide)
  | 24, h => exact absurd h (by decide)
  | 25, h => rfl
  | 26, h => exact absurd h (by decide)
  | 27, h => exact absurd h (by decide)
  | 28, h => exact absurd h (by decide)
  | 29, h => exact absurd h (by decide)
  | 30, h => exact absurd h (by decide)
  | 31, h => exact absurd h (by decide)
  | 32, h => exact absurd h (by decide)
  | 33, h => exact absurd h (by decide)
  | 34, h => exact absurd h (by decide)
  | 35, h => exact absurd h (by decide)
  | 36, h => exact absurd h (by decide)
  | k + 37, h => exact absurd h (by simp [blenC])
theorem wl_sbC (G : zG) (M : Mem) (k : Nat) (i : Int32) (v : Int32) (h : 0 < blenC k) : (wlC G M).set k (G.1 k, .inl (G.2.1 2, blenC k, .inl (upd (M.1 k) i.toNatClampNeg v))) = wlC G (wI M k i v) := by
  match k, h with
  | 0, h => exact absurd h (by decide)
  | 1, h => exact absurd h (by decide)
  | 2, h => exact absurd h (by decide)
  | 3, h => exact absurd h (by decide)
  | 4, h => exact absurd h (by decide)
  | 5, h => exact absurd h (by decide)
  | 6, h => exact absurd h (by decide)
  | 7, h => exact absurd h (by decide)
  | 8, h => exact absurd h (by decide)
  | 9, h => exact absurd h (by decide)
  | 10, h => exact absurd h (by decide)
  | 11, h => exact absurd h (by decide)
  | 12, h => exact absurd h (by decide)
  | 13, h => exact absurd h (by decide)
  | 14, h => exact absurd h (by decide)
  | 15, h => exact absurd h (by decide)
  | 16, h => exact absurd h (by decide)
  | 17, h => exact absurd h (by decide)
  | 18, h => exact absurd h (by decide)
  | 19, h => exact absurd h (by decide)
  | 20, h => exact absurd h (by decide)
  | 21, h => exact absurd h (by decide)
  | 22, h => exact absurd h (by decide)
  | 23, h => exact absurd h (by decide)
  | 24, h => exact absurd h (by decide)
  | 25, h => rfl
  | 26, h => exact absurd h (by decide)
  | 27, h => exact absurd h (by decide)
  | 28, h => exact absurd h (by decide)
  | 29, h => exact absurd h (by decide)
  | 30, h => exact absurd h (by decide)
  | 31, h => exact absurd h (by decide)
  | 32, h => exact absurd h (by decide)
  | 33, h => exact absurd h (by decide)
  | 34, h => exact absurd h (by decide)
  | 35, h => exact absurd h (by decide)
  | 36, h => exact absurd h (by decide)
  | k + 37, h => exact absurd h (by simp [blenC])
theorem wl_lC (G : zG) (M : Mem) (k : Nat) (h : 0 < llenC k) : (wlC G M)[k]? = some (G.1 k, .inl (G.2.1 1, llenC k, .inr (.inl (M.2 k)))) := by
  match k, h with
  | 0, h => exact absurd h (by decide)
  | 1, h => exact absurd h (by decide)
  | 2, h => exact absurd h (by decide)
  | 3, h => exact absurd h (by decide)
  | 4, h => exact absurd h (by decide)
  | 5, h => exact absurd h (by decide)
  | 6, h => exact absurd h (by decide)
  | 7, h => exact absurd h (by decide)
  | 8, h => exact absurd h (by decide)
  | 9, h => exact absurd h (by decide)
  | 10, h => exact absurd h (by decide)
  | 11, h => exact absurd h (by decide)
  | 12, h => exact absurd h (by decide)
  | 13, h => exact absurd h (by decide)
  | 14, h => exact absurd h (by decide)
  | 15, h => exact absurd h (by decide)
  | 16, h => exact absurd h (by decide)
  | 17, h => exact absurd h (by decide)
  | 18, h => exact absurd h (by decide)
  | 19, h => exact absurd h (by decide)
  | 20, h => exact absurd h (by decide)
  | 21, h => rfl
  | 22, h => exact absurd h (by decide)
  | 23, h => exact absurd h (by decide)
  | 24, h => exact absurd h (by decide)
  | 25, h => exact absurd h (by decide)
  | 26, h => exact absurd h (by decide)
  | 27, h => exact absurd h (by decide)
  | 28, h => exact absurd h (by decide)
  | 29, h => exact absurd h (by decide)
  | 30, h => exact absurd h (by decide)
  | 31, h => exact absurd h (by decide)
  | 32, h => exact absurd h (by decide)
  | 33, h => exact absurd h (by decide)
  | 34, h => exact absurd h (by decide)
  | 35, h => exact absurd h (by decide)
  | 36, h => exact absurd h (by decide)
  | k + 37, h => exact absurd h (by simp [llenC])
theorem wl_slC (G : zG) (M : Mem) (k : Nat) (i : Int32) (v : Int64) (h : 0 < llenC k) : (wlC G M).set k (G.1 k, .inl (G.2.1 1, llenC k, .inr (.inl (vp_updL (M.2 k) i.toNatClampNeg v)))) = wlC G (wL M k i v) := by
  match k, h with
  | 0, h => exact absurd h (by decide)
  | 1, h => exact absurd h (by decide)
  | 2, h => exact absurd h (by decide)
  | 3, h => exact absurd h (by decide)
  | 4, h => exact absurd h (by decide)
  | 5, h => exact absurd h (by decide)
  | 6, h => exact absurd h (by decide)
  | 7, h => exact absurd h (by decide)
  | 8, h => exact absurd h (by decide)
  | 9, h => exact absurd h (by decide)
  | 10, h => exact absurd h (by decide)
  | 11, h => exact absurd h (by decide)
  | 12, h => exact absurd h (by decide)
  | 13, h => exact absurd h (by decide)
  | 14, h => exact absurd h (by decide)
  | 15, h => exact absurd h (by decide)
  | 16, h => exact absurd h (by decide)
  | 17, h => exact absurd h (by decide)
  | 18, h => exact absurd h (by decide)
  | 19, h => exact absurd h (by decide)
  | 20, h => exact absurd h (by decide)
  | 21, h => rfl
  | 22, h => exact absurd h (by decide)
  | 23, h => exact absurd h (by decide)
  | 24, h => exact absurd h (by decide)
  | 25, h => exact absurd h (by decide)
  | 26, h => exact absurd h (by decide)
  | 27, h => exact absurd h (by decide)
  | 28, h => exact absurd h (by decide)
  | 29, h => exact absurd h (by decide)
  | 30, h => exact absurd h (by decide)
  | 31, h => exact absurd h (by decide)
  | 32, h => exact absurd h (by decide)
  | 33, h => exact absurd h (by decide)
  | 34, h => exact absurd h (by decide)
  | 35, h => exact absurd h (by decide)
  | 36, h => exact absurd h (by decide)
  | k + 37, h => exact absurd h (by simp [llenC])
def wlT (G : zG) (M : Mem) : va_W := [(G.1 0, .inr (7, [.int (M.1 0 0), .int (M.1 0 1), .int (M.1 0 2), .ref (G.1 1), .ref (G.1 2), .ref (G.1 3), .ref (G.1 4), .ref (G.1 5), .int (M.1 0 8), .ref (G.1 6), .ref (G.1 7), .ref (G.1 8), .ref (G.1 9), .int (M.1 0 13), .ref (G.1 10), .ref (G.1 11), .ref (G.1 12), .int (M.1 0 17), .ref (G.1 13), .ref (G.1 14), .ref (G.1 15), .ref (G.1 16), .ref (G.1 17), .int (M.1 0 23), .int (M.1 0 24)])),
  (G.1 1, .inl (G.2.1 2, 30, .inl (M.1 1))),
  (G.1 2, .inl (G.2.1 0, 30, .inl (M.1 2))),
  (G.1 3, .inl (G.2.1 0, 30, .inl (M.1 3))),
  (G.1 4, .inl (G.2.1 0, 30, .inl (M.1 4))),
  (G.1 5, .inl (G.2.1 0, 30, .inl (M.1 5))),
  (G.1 6, .inl (G.2.1 0, 4, .inl (M.1 6))),
  (G.1 7, .inl (G.2.1 0, 6, .inl (M.1 7))),
  (G.1 8, .inl (G.2.1 0, 6, .inl (M.1 8))),
  (G.1 9, .inl (G.2.1 2, 6, .inl (M.1 9))),
  (G.1 10, .inl (G.2.1 0, 36, .inl (M.1 10))),
  (G.1 11, .inl (G.2.1 0, 6, .inl (M.1 11))),
  (G.1 12, .inl (G.2.1 1, 64, .inr (.inl (M.2 12)))),
  (G.1 13, .inl (G.2.1 0, 6, .inl (M.1 13))),
  (G.1 14, .inl (G.2.1 0, 6, .inl (M.1 14))),
  (G.1 15, .inl (G.2.1 1, 6, .inr (.inl (M.2 15)))),
  (G.1 16, .inl (G.2.1 0, 6, .inl (M.1 16))),
  (G.1 17, .inl (G.2.1 0, 6, .inl (M.1 17)))]
def alenT (k : Nat) : Nat := match k with
  | 2 => 30
  | 3 => 30
  | 4 => 30
  | 5 => 30
  | 6 => 4
  | 7 => 6
  | 8 => 6
  | 10 => 36
  | 11 => 6
  | 13 => 6
  | 14 => 6
  | 16 => 6
  | 17 => 6
  | _ => 0
def blenT (k : Nat) : Nat := match k with
  | 1 => 30
  | 9 => 6
  | _ => 0
def llenT (k : Nat) : Nat := match k with
  | 12 => 64
  | 15 => 6
  | _ => 0
theorem wlAT (G : zG) (M : Mem) (k : Nat) (q : Nat × va_E) (h : (wlT G M)[k]? = some q) : q.1 = G.1 k ∧ k < 18 := by
  match k, h with
  | 0, h => cases h; exact ⟨rfl, by decide⟩
  | 1, h => cases h; exact ⟨rfl, by decide⟩
  | 2, h => cases h; exact ⟨rfl, by decide⟩
  | 3, h => cases h; exact ⟨rfl, by decide⟩
  | 4, h => cases h; exact ⟨rfl, by decide⟩
  | 5, h => cases h; exact ⟨rfl, by decide⟩
  | 6, h => cases h; exact ⟨rfl, by decide⟩
  | 7, h => cases h; exact ⟨rfl, by decide⟩
  | 8, h => cases h; exact ⟨rfl, by decide⟩
  | 9, h => cases h; exact ⟨rfl, by decide⟩
  | 10, h => cases h; exact ⟨rfl, by decide⟩
  | 11, h => cases h; exact ⟨rfl, by decide⟩
  | 12, h => cases h; exact ⟨rfl, by decide⟩
  | 13, h => cases h; exact ⟨rfl, by decide⟩
  | 14, h => cases h; exact ⟨rfl, by decide⟩
  | 15, h => cases h; exact ⟨rfl, by decide⟩
  | 16, h => cases h; exact ⟨rfl, by decide⟩
  | 17, h => cases h; exact ⟨rfl, by decide⟩
  | k + 18, h => cases h
theorem wl_iT (G : zG) (M : Mem) (k : Nat) (h : 0 < alenT k) : (wlT G M)[k]? = some (G.1 k, .inl (G.2.1 0, alenT k, .inl (M.1 k))) := by
  match k, h with
  | 0, h => exact absurd h (by decide)
  | 1, h => exact absurd h (by decide)
  | 2, h => rfl
  | 3, h => rfl
  | 4, h => rfl
  | 5, h => rfl
  | 6, h => rfl
  | 7, h => rfl
  | 8, h => rfl
  | 9, h => exact absurd h (by decide)
  | 10, h => rfl
  | 11, h => rfl
  | 12, h => exact absurd h (by decide)
  | 13, h => rfl
  | 14, h => rfl
  | 15, h => exact absurd h (by decide)
  | 16, h => rfl
  | 17, h => rfl
  | k + 18, h => exact absurd h (by simp [alenT])
theorem wl_siT (G : zG) (M : Mem) (k : Nat) (i : Int32) (v : Int32) (h : 0 < alenT k) : (wlT G M).set k (G.1 k, .inl (G.2.1 0, alenT k, .inl (upd (M.1 k) i.toNatClampNeg v))) = wlT G (wI M k i v) := by
  match k, h with
  | 0, h => exact absurd h (by decide)
  | 1, h => exact absurd h (by decide)
  | 2, h => rfl
  | 3, h => rfl
  | 4, h => rfl
  | 5, h => rfl
  | 6, h => rfl
  | 7, h => rfl
  | 8, h => rfl
  | 9, h => exact absurd h (by decide)
  | 10, h => rfl
  | 11, h => rfl
  | 12, h => exact absurd h (by decide)
  | 13, h => rfl
  | 14, h => rfl
  | 15, h => exact absurd h (by decide)
  | 16, h => rfl
  | 17, h => rfl
  | k + 18, h => exact absurd h (by simp [alenT])
theorem wl_bT (G : zG) (M : Mem) (k : Nat) (h : 0 < blenT k) : (wlT G M)[k]? = some (G.1 k, .inl (G.2.1 2, blenT k, .inl (M.1 k))) := by
  match k, h with
  | 0, h => exact absurd h (by decide)
  | 1, h => rfl
  | 2, h => exact absurd h (by decide)
  | 3, h => exact absurd h (by decide)
  | 4, h => exact absurd h (by decide)
  | 5, h => exact absurd h (by decide)
  | 6, h => exact absurd h (by decide)
  | 7, h => exact absurd h (by decide)
  | 8, h => exact absurd h (by decide)
  | 9, h => rfl
  | 10, h => exact absurd h (by decide)
  | 11, h => exact absurd h (by decide)
  | 12, h => exact absurd h (by decide)
  | 13, h => exact absurd h (by decide)
  | 14, h => exact absurd h (by decide)
  | 15, h => exact absurd h (by decide)
  | 16, h => exact absurd h (by decide)
  | 17, h => exact absurd h (by decide)
  | k + 18, h => exact absurd h (by simp [blenT])
theorem wl_sbT (G : zG) (M : Mem) (k : Nat) (i : Int32) (v : Int32) (h : 0 < blenT k) : (wlT G M).set k (G.1 k, .inl (G.2.1 2, blenT k, .inl (upd (M.1 k) i.toNatClampNeg v))) = wlT G (wI M k i v) := by
  match k, h with
  | 0, h => exact absurd h (by decide)
  | 1, h => rfl
  | 2, h => exact absurd h (by decide)
  | 3, h => exact absurd h (by decide)
  | 4, h => exact absurd h (by decide)
  | 5, h => exact absurd h (by decide)
  | 6, h => exact absurd h (by decide)
  | 7, h => exact absurd h (by decide)
  | 8, h => exact absurd h (by decide)
  | 9, h => rfl
  | 10, h => exact absurd h (by decide)
  | 11, h => exact absurd h (by decide)
  | 12, h => exact absurd h (by decide)
  | 13, h => exact absurd h (by decide)
  | 14, h => exact absurd h (by decide)
  | 15, h => exact absurd h (by decide)
  | 16, h => exact absurd h (by decide)
  | 17, h => exact absurd h (by decide)
  | k + 18, h => exact absurd h (by simp [blenT])
theorem wl_lT (G : zG) (M : Mem) (k : Nat) (h : 0 < llenT k) : (wlT G M)[k]? = some (G.1 k, .inl (G.2.1 1, llenT k, .inr (.inl (M.2 k)))) := by
  match k, h with
  | 0, h => exact absurd h (by decide)
  | 1, h => exact absurd h (by decide)
  | 2, h => exact absurd h (by decide)
  | 3, h => exact absurd h (by decide)
  | 4, h => exact absurd h (by decide)
  | 5, h => exact absurd h (by decide)
  | 6, h => exact absurd h (by decide)
  | 7, h => exact absurd h (by decide)
  | 8, h => exact absurd h (by decide)
  | 9, h => exact absurd h (by decide)
  | 10, h => exact absurd h (by decide)
  | 11, h => exact absurd h (by decide)
  | 12, h => rfl
  | 13, h => exact absurd h (by decide)
  | 14, h => exact absurd h (by decide)
  | 15, h => rfl
  | 16, h => exact absurd h (by decide)
  | 17, h => exact absurd h (by decide)
  | k + 18, h => exact absurd h (by simp [llenT])
theorem wl_slT (G : zG) (M : Mem) (k : Nat) (i : Int32) (v : Int64) (h : 0 < llenT k) : (wlT G M).set k (G.1 k, .inl (G.2.1 1, llenT k, .inr (.inl (vp_updL (M.2 k) i.toNatClampNeg v)))) = wlT G (wL M k i v) := by
  match k, h with
  | 0, h => exact absurd h (by decide)
  | 1, h => exact absurd h (by decide)
  | 2, h => exact absurd h (by decide)
  | 3, h => exact absurd h (by decide)
  | 4, h => exact absurd h (by decide)
  | 5, h => exact absurd h (by decide)
  | 6, h => exact absurd h (by decide)
  | 7, h => exact absurd h (by decide)
  | 8, h => exact absurd h (by decide)
  | 9, h => exact absurd h (by decide)
  | 10, h => exact absurd h (by decide)
  | 11, h => exact absurd h (by decide)
  | 12, h => rfl
  | 13, h => exact absurd h (by decide)
  | 14, h => exact absurd h (by decide)
  | 15, h => rfl
  | 16, h => exact absurd h (by decide)
  | 17, h => exact absurd h (by decide)
  | k + 18, h => exact absurd h (by simp [llenT])
