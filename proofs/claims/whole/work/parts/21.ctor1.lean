/-! constructors: a growing list of cells, the object that is made at its head -/
def zLnNest : Cond := Cond.methodLinkNest R_ES 24 y_Ln_init R_ES
def zRwNest : Cond := Cond.methodLinkNest R_ES 31 y_Rw_init R_ES
def zAOv (U : State) : Prop := (Cond.arrayOver (.array .int)).before #[] U = true
def zKA (G : zG) (U : State) : Prop := zK G U ∧ zAOv U ∧ va_Nw zLnNest U ∧ va_Nw zRwNest U
theorem zKA_warm {G : zG} {s U : State} (hW : s.WarmedH U.vm) (h : zKA G s) : zKA G U := ⟨zK_warm hW h.1, Jvm.Stand.arrayOver_alikeB hW.alike h.2.1, va_Nw.warmM hW h.2.2.1, va_Nw.warmM hW h.2.2.2⟩
theorem zKA_same {G : zG} {u U : State} (hv : u.vm = U.vm) (h : zKA G u) : zKA G U := ⟨zK_same hv h.1, Jvm.Stand.arrayOver_alikeB (hv ▸ Vm.Alike.refl u.vm) h.2.1, va_Nw.same rfl hv h.2.2.1, va_Nw.same rfl hv h.2.2.2⟩
def zAo (h0 sz : Nat) : Nat → Prop := fun q => q = h0 ∨ sz ≤ q
def ZN (G : zG) (h0 : Nat) (s : State) (ws : va_W) (H : Heap) (locs : List Loc) : Prop := zKA G s ∧ va_P G.2.2 zcl ws H ∧ va_D (zAo h0 s.heap.size) ws ∧ va_S (zAo h0 s.heap.size) s.heap H locs
def zPN (G : zG) (h0 sz : Nat) (av : List Value) (e0 : va_E) : Array Value → State → Prop := va_Pc (.ref h0 :: av) (fun U => U.heap.size = sz ∧ zKA G U ∧ va_P G.2.2 zcl [(h0, e0)] U.heap)
def zQN (G : zG) (h0 sz : Nat) (Post : va_W → Prop) : Array Value → State → Outcome → State → Prop := fun _ st oc t => oc = .returned none ∧ (∃ w : va_W, Post w ∧ va_P G.2.2 zcl w t.heap ∧ va_D (zAo h0 sz) w) ∧ va_F (zAo h0 sz) st t
def CtM (l : Launch) (G : zG) (y : MethodName) (ws : List Cond) (rm : Room) (h0 : Nat) (av : List Value) (e0 : va_E) (Post : va_W → Prop) (mc ms : Nat) : Prop :=
  ∀ sz : Nat, Met l y ws rm (zPN G h0 sz av e0) (zQN G h0 sz Post) mc ms (zAo h0 sz)
def zFN (p : Program) (R : Room) (s : State) (m : MethodId) (args : Array Value) (below : List Frame) (meth : Method) (c : Code) (Q : State → Prop) (G : zG) (cc : ByteArray) (maxL : Nat) (own : String) (rm : Room) (h0 : Nat) (Post : va_W → Prop) (mc ms : Nat) : Prop :=
  p.tables.exec = Jvm.exec ∧ c.code = cc ∧ c.maxLocals = maxL ∧ meth.sig.returnType = none ∧ (∀ w ∈ zws, w.before args s = true) ∧ s.vm.findClass own = some m.cls ∧ meth.locks = false ∧ R = rm ∧ Q = MQ below (zQN G h0 s.heap.size Post) args s mc ms (zAo h0 s.heap.size) ∧ meth.name = "<init>"
theorem zD1 {A : Nat → Prop} {h0 : Nat} {e0 : va_E} (hA : A h0) : va_D A [(h0, e0)] := by
  refine ⟨fun i j p q hi hj _ => ?_, fun k q hk => ?_⟩
  · match i, j, hi, hj with
    | 0, 0, _, _ => rfl
    | 0, j + 1, _, hj => cases hj
    | i + 1, _, hi, _ => cases hi
  · match k, hk with
    | 0, hk => cases hk; exact hA
    | k + 1, hk => cases hk
theorem zarr_congr {cI : ClassId} {N : Nat} {f g : Nat → Value} (h : ∀ j : Nat, j < N → f j = g j) : arrV cI N f = arrV cI N g := by
  unfold arrV
  rw [show (fun j : Fin N => f j.val) = (fun j : Fin N => g j.val) from funext fun j => h j.val j.isLt]
theorem z_ofN {l : Launch} {G : zG} {y : MethodName} {cc : ByteArray} {maxL : Nat} {rm : Room} {h0 : Nat} {av : List Value} {e0 : va_E} {Post : va_W → Prop} {mc ms : Nat} {lv : List (Nat × Value)} (hy : plainName y.cls = true) (hyi : y.name = "<init>") (hn : (lg_sl (.ref h0 :: av)).length ≤ maxL) (hlv : lv_args 0 (.ref h0 :: av) = lv)
    (body : ∀ (p : Program) (e : Env) (R : Room) (s : State) (m : MethodId) (args : Array Value) (below : List Frame) (meth : Method) (c : Code) (Q : State → Prop) (ls : Array Slot), zFN p R s m args below meth c Q G cc maxL y.cls rm h0 Post mc ms → lv_has ls maxL lv → ZN G h0 s [(h0, e0)] s.heap [] → W p l e R s m args below meth c s.heap [] 0 0 Q (F0 m 0 ls [])) :
    CtM l G y (Cond.code y cc maxL none :: zws) rm h0 av e0 Post mc ms := by
  intro sz
  refine Met.ofW (cc := cc) (maxL := maxL) (ret := none) hy rfl ?_
  intro p e s m args below meth c s₁ B hml hv
  obtain ⟨rfl, hsz, hK, hP⟩ := hv
  subst hsz
  have hts := atoms_spec (ws := Cond.code y cc maxL none :: zws) B.pre
  have hl := lv_entry (.ref h0 :: av) (n := maxL) hn
  rw [lg_entry_eq]
  generalize (lg_sl (.ref h0 :: av) ++ List.replicate (maxL - (lg_sl (.ref h0 :: av)).length) Slot.unset).toArray = ls at hl ⊢
  exact body p e _ s m (.ref h0 :: av).toArray below meth c _ ls ⟨B.exec, B.bytes, hml, B.returns, fun w hw => hts w (List.mem_cons_of_mem _ hw), findClass_of_methodNamed B.named, B.notSynchronized, rfl, rfl, by rw [(name_of_methodNamed B.named B.method).1]; exact hyi⟩ (by rw [← hlv]; exact hl) ⟨hK, hP, zD1 (Or.inl rfl), va_S.rf⟩
theorem zK_arr {G : zG} {s : State} (h : zKA G s) (k : Nat) {ty : FieldType} (hk : (zty G)[k]? = some (G.2.1 k, ty)) : ArrOfT s (G.2.1 k) ty ∧ va_RA s (G.2.1 k) ty := h.1.1.2 k _ hk
section ZNR
variable {p : Program} {l : Launch} {e : Env} {R : Room} {s : State} {m : MethodId} {args : Array Value} {below : List Frame} {meth : Method} {c : Code} {H : Heap} {locs : List Loc} {cells slots : Nat} {Q : State → Prop}
variable {cc : ByteArray} {pc nL : Nat} {ls : Array Slot} {rest : List Value} {G : zG} {h0 : Nat} {ws : va_W}
theorem zAo_ge {q : Nat} (h : s.heap.size ≤ q) : zAo h0 s.heap.size q := Or.inr h
theorem zn_newi {n : Int32} {N : Nat} (hx0 : p.tables.exec = Jvm.exec) (hb : c.code = cc) (hts : ∀ w ∈ zws, w.before args s = true) (harr : Cond.arrayClass .int ∈ zws) (hZ : ZN G h0 s ws H locs) (hn : ¬ n < 0) (hN : n.toNatClampNeg = N) (hbytes : N * 4 ≤ 536870912) (hcells : cells + 1 ≤ R.cells) (hslots : slots + N ≤ R.slots) (hdg : decode cc pc = .ok (.newarray .int, 2))
    (kk : ∀ (q : Nat) (H1 : Heap), ZN G h0 s (ws ++ [(q, .inl (G.2.1 0, N, .inl (fun _ => 0)))]) H1 locs → W p l e R s m args below meth c H1 locs (cells + 1) (slots + N) Q (F0 m (pc + 2) ls (.ref q :: rest))) : W p l e R s m args below meth c H locs cells slots Q (F0 m pc ls (.int n :: rest)) := by
  refine va_newa (atype := .int) (ty := .int) (a0 := (N, .inl (fun _ => 0))) hx0 hb (hts _ harr) rfl hZ.1.1.1 hZ.2.1 hZ.2.2.1 hZ.2.2.2 (fun q h => zAo_ge h) (fun cA => rfl) hn hN hbytes hcells hslots hdg (fun q cA H1 hK hP hD hS => ?_)
  have e1 := (zK_arr hZ.1 0 rfl).2
  have e2 := (hK.2 4 _ rfl).2
  obtain rfl : G.2.1 0 = cA := Option.some.inj (e1.symm.trans e2)
  exact kk q H1 ⟨hZ.1, hP, hD, hS⟩
theorem zn_newl {n : Int32} {N : Nat} (hx0 : p.tables.exec = Jvm.exec) (hb : c.code = cc) (hts : ∀ w ∈ zws, w.before args s = true) (harr : Cond.arrayClass .long ∈ zws) (hZ : ZN G h0 s ws H locs) (hn : ¬ n < 0) (hN : n.toNatClampNeg = N) (hbytes : N * 8 ≤ 536870912) (hcells : cells + 1 ≤ R.cells) (hslots : slots + N ≤ R.slots) (hdg : decode cc pc = .ok (.newarray .long, 2))
    (kk : ∀ (q : Nat) (H1 : Heap), ZN G h0 s (ws ++ [(q, .inl (G.2.1 1, N, .inr (.inl (fun _ => 0))))]) H1 locs → W p l e R s m args below meth c H1 locs (cells + 1) (slots + N) Q (F0 m (pc + 2) ls (.ref q :: rest))) : W p l e R s m args below meth c H locs cells slots Q (F0 m pc ls (.int n :: rest)) := by
  refine va_newa (atype := .long) (ty := .long) (a0 := (N, .inr (.inl (fun _ => 0)))) hx0 hb (hts _ harr) rfl hZ.1.1.1 hZ.2.1 hZ.2.2.1 hZ.2.2.2 (fun q h => zAo_ge h) (fun cA => rfl) hn hN hbytes hcells hslots hdg (fun q cA H1 hK hP hD hS => ?_)
  have e1 := (zK_arr hZ.1 1 rfl).2
  have e2 := (hK.2 4 _ rfl).2
  obtain rfl : G.2.1 1 = cA := Option.some.inj (e1.symm.trans e2)
  exact kk q H1 ⟨hZ.1, hP, hD, hS⟩
theorem zn_newz {n : Int32} {N : Nat} (hx0 : p.tables.exec = Jvm.exec) (hb : c.code = cc) (hts : ∀ w ∈ zws, w.before args s = true) (harr : Cond.arrayClass .boolean ∈ zws) (hZ : ZN G h0 s ws H locs) (hn : ¬ n < 0) (hN : n.toNatClampNeg = N) (hbytes : N * 1 ≤ 536870912) (hcells : cells + 1 ≤ R.cells) (hslots : slots + N ≤ R.slots) (hdg : decode cc pc = .ok (.newarray .boolean, 2))
    (kk : ∀ (q : Nat) (H1 : Heap), ZN G h0 s (ws ++ [(q, .inl (G.2.1 2, N, .inl (fun _ => 0)))]) H1 locs → W p l e R s m args below meth c H1 locs (cells + 1) (slots + N) Q (F0 m (pc + 2) ls (.ref q :: rest))) : W p l e R s m args below meth c H locs cells slots Q (F0 m pc ls (.int n :: rest)) := by
  refine va_newa (atype := .boolean) (ty := .boolean) (a0 := (N, .inl (fun _ => 0))) hx0 hb (hts _ harr) rfl hZ.1.1.1 hZ.2.1 hZ.2.2.1 hZ.2.2.2 (fun q h => zAo_ge h) (fun cA => rfl) hn hN hbytes hcells hslots hdg (fun q cA H1 hK hP hD hS => ?_)
  have e1 := (zK_arr hZ.1 2 rfl).2
  have e2 := (hK.2 4 _ rfl).2
  obtain rfl : G.2.1 2 = cA := Option.some.inj (e1.symm.trans e2)
  exact kk q H1 ⟨hZ.1, hP, hD, hS⟩
theorem zn_vret {Post : va_W → Prop} {mc ms : Nat} (hx0 : p.tables.exec = Jvm.exec) (hb : c.code = cc) (hr : meth.sig.returnType = none) (hZ : ZN G h0 s ws H locs) (hlocks : meth.locks = false) (hQ : Q = MQ below (zQN G h0 s.heap.size Post) args s mc ms (zAo h0 s.heap.size)) (hPost : Post ws) (hc : cells ≤ mc) (hs : slots ≤ ms) (hdg : decode cc pc = .ok (.return_, 1)) : W p l e R s m args below meth c H locs cells slots Q (F0 m pc ls []) := by
  subst hQ
  refine W.widen (k := mc) (n := ms) hc hs ?_
  exact W.vret hx0 hb hr (fun t ht _ => ⟨rfl, ⟨ws, hPost, by rw [ht]; exact hZ.2.1, hZ.2.2.1⟩, hZ.2.2.2.F ht⟩) hZ.2.2.2.2.2 hdg hlocks
/-- behind a constructor's call: the caller's other cells, and what was made -/
theorem zn_join {X : va_W} {q : Nat} {e0 : va_E} {st0 : List Value} {Post : va_W → Prop} {mc ms : Nat} {a : Array Value} (hr : va_Run p l e R s m args below meth c H locs cells slots mc ms (F0 m pc ls st0) rest (zQN G q H.size Post a) (zAo q H.size)) (hZ : ZN G h0 s (X ++ [(q, e0)]) H locs)
    (kk : ∀ (w : va_W) (H1 : Heap) (locs1 : List Loc), Post w → ZN G h0 s (X ++ w) H1 locs1 → W p l e R s m args below meth c H1 locs1 (cells + mc) (slots + ms) Q (F0 m (pc + 3) ls rest)) : W p l e R s m args below meth c H locs cells slots Q (F0 m pc ls st0) := by
  intro T hT X9
  obtain ⟨v, st₀, t, T', L, h0', X', hL, e1, e2, ⟨hv, ⟨w, hPost, hPw, hDw⟩, hz, hk⟩, st⟩ := hr T hT X9
  obtain rfl : v = none := by injection hv
  rw [h0'] at hz hk
  obtain ⟨hK, hP, hD, hS⟩ := hZ
  have hqA : zAo h0 s.heap.size q := hD.2 X.length (q, e0) (by simp)
  have hA : ∀ x, zAo q H.size x → zAo h0 s.heap.size x := fun x h => by
    rcases h with rfl | h
    · exact hqA
    · exact Or.inr (Nat.le_trans hS.1 h)
  have hXl : ∀ (k : Nat) (x : Nat × va_E), X[k]? = some x → (X ++ [(q, e0)])[k]? = some x := fun k x hx => by
    rw [List.getElem?_append_left (List.getElem?_eq_some_iff.mp hx).1]; exact hx
  have hXn : ∀ (k : Nat) (x : Nat × va_E), X[k]? = some x → ¬ zAo q H.size x.1 := fun k x hx z => by
    have hlt := (hP k x (hXl k x hx)).lt
    rcases z with z | z
    · have h9 := hD.1 k X.length x (q, e0) (hXl k x hx) (by simp) z
      have := (List.getElem?_eq_some_iff.mp hx).1
      omega
    · omega
  have hPX : va_P G.2.2 zcl X T'.heap := fun k x hx => (hP k x (hXl k x hx)).kept (by rw [e1]; exact hk x.1 (hP k x (hXl k x hx)).lt (hXn k x hx))
  have hDX : va_D (zAo h0 s.heap.size) X := ⟨fun i j x y hi hj h => hD.1 i j x y (hXl i x hi) (hXl j y hj) h, fun k x hx => hD.2 k x (hXl k x hx)⟩
  obtain ⟨t2, a1, b1⟩ := kk w T'.heap (locs ++ L) hPost ⟨hK, hPX.app (by rw [e1]; exact hPw), va_D.app hDX (hDw.weaken (fun k x _ h => hA x.1 h)) (fun i j x y hi hj h => hXn i x hi (by rw [h]; exact hDw.2 j y hj)),
    ⟨Nat.le_trans hS.1 (by rw [e1]; exact hz), fun x h1 h2 => by rw [e1, hk x (Nat.lt_of_lt_of_le h1 hS.1) (fun z => h2 (hA x z))]; exact hS.2.1 x h1 h2, fun x hx => by
      rcases List.mem_append.mp hx with h | h
      · exact hS.2.2 x h
      · exact hA _ (hL x h)⟩⟩ T' rfl X'
  exact ⟨t2, st t2 a1, b1⟩
theorem zPN_blind {sz : Nat} {av : List Value} {e0 : va_E} : FrameBlind (zPN G h0 sz av e0) := fun a U g mk q => by
  obtain ⟨q0, q1, qK, qP⟩ := q
  exact ⟨q0, q1, zKA_same (u := U) (U := U.calling g mk a) rfl qK, qP⟩
theorem zPN_at {X : va_W} {q : Nat} {av : List Value} {e0 : va_E} (hZ : ZN G h0 s (X ++ [(q, e0)]) H locs) : ∀ U : State, U.heap = H → s.WarmedH U.vm → zPN G q H.size av e0 (Value.ref q :: av).toArray U := fun U hU hW => ⟨rfl, by rw [hU], zKA_warm hW hZ.1, fun k x hx => by
  match k, hx with
  | 0, hx => cases hx; rw [hU]; exact hZ.2.1 X.length _ (by simp)
  | k + 1, hx => cases hx⟩
theorem zn_mna {N K : Nat} {n k : Int32} {own : String} {index : Nat} (hx0 : p.tables.exec = Jvm.exec) (hb : c.code = cc) (hts : ∀ w ∈ zws, w.before args s = true) (hown : s.vm.findClass own = some m.cls) (hcl : Cond.classLink own index "[[I" ∈ zws) (harr : Cond.arrayClass .int ∈ zws) (hZ : ZN G h0 s ws H locs) (hn : ¬ n < 0) (hk : ¬ k < 0) (hN : n.toNatClampNeg = N) (hK : k.toNatClampNeg = K) (hb1 : N * 4 ≤ 536870912) (hb2 : K * 4 ≤ 536870912) (hcells : cells + (1 + N) ≤ R.cells) (hslots : slots + (N + N * K) ≤ R.slots) (hdg : decode cc pc = .ok (.multianewarray index 2, 4))
    (kk : ∀ (q : Nat) (r : Nat → Nat) (H1 : Heap), ZN G h0 s ((ws ++ [(q, .inl (G.2.1 3, N, .inr (.inr (.inr (.inr (fun i => some (r i)))))))]) ++ (List.range N).map (fun i => (r i, .inl (G.2.1 0, K, .inl (fun _ => 0))))) H1 locs → W p l e R s m args below meth c H1 locs (cells + 1 + N) (slots + N + N * K) Q (F0 m (pc + 4) ls (.ref q :: rest))) : W p l e R s m args below meth c H locs cells slots Q (F0 m pc ls (.int k :: .int n :: rest)) := by
  subst hN
  subst hK
  intro T hT X
  obtain ⟨vm₁, cA, comp, -, fA, fC, hO, -, X', step⟩ := X.multianewarray2F hx0 (ty := .int) hown (hts _ hcl) (show (Cond.arrayOver (.array .int)).before args s = true from hZ.1.2.1) (hts _ harr) (g := F0 m pc ls (.int k :: .int n :: rest)) rfl (by rw [hb]; exact hdg) rfl hn hk hb1 hb2 (by omega) rfl rfl hcells hslots
  obtain rfl : G.2.1 3 = cA := Option.some.inj ((zK_arr hZ.1 3 rfl).2.symm.trans fA)
  obtain rfl : G.2.1 0 = comp := Option.some.inj ((zK_arr hZ.1 0 rfl).2.symm.trans fC)
  generalize hF : Jvm.Free.Multi.fill (T.setVm vm₁) (G.2.1 3) (G.2.1 0) n.toNatClampNeg k.toNatClampNeg (defaultValue .int) n.toNatClampNeg = F at X' step
  have hTh : (T.setVm vm₁).heap = H := hT
  obtain ⟨f1, f2, -, -⟩ := Jvm.Free.Multi.fill_facts (T.setVm vm₁) (G.2.1 3) (G.2.1 0) n.toNatClampNeg k.toNatClampNeg (defaultValue .int) n.toNatClampNeg
  rw [hF, hTh] at f1 f2
  have hold : ∀ x : Nat, x < H.size → F.heap[x]? = H[x]? := fun x hx => by
    have := Jvm.Free.Multi.fill_old (T.setVm vm₁) (G.2.1 3) (G.2.1 0) n.toNatClampNeg k.toNatClampNeg (defaultValue .int) (a := x) (by rw [hTh]; exact hx) n.toNatClampNeg
    rw [hF, hTh] at this
    exact this
  have hrow : ∀ j : Nat, j < n.toNatClampNeg → F.heap[H.size + 1 + j]? = some (Jvm.Free.Multi.innerC (G.2.1 0) k.toNatClampNeg (defaultValue .int)) := fun j hj => by
    have := Jvm.Free.Multi.fill_inner (T.setVm vm₁) (G.2.1 3) (G.2.1 0) n.toNatClampNeg k.toNatClampNeg (defaultValue .int) n.toNatClampNeg j hj
    rw [hF, hTh] at this
    exact this
  have hin : Jvm.Free.Multi.innerC (G.2.1 0) k.toNatClampNeg (defaultValue .int) = arrV (G.2.1 0) k.toNatClampNeg (fun _ => .int 0) := arrV_new _ _ _
  have hout : ∀ i : Nat, i ≤ n.toNatClampNeg → Jvm.Free.Multi.outerC (G.2.1 3) n.toNatClampNeg H.size i = arrV (G.2.1 3) n.toNatClampNeg (fun j => if j < i then .ref (H.size + 1 + j) else .null) := by
    intro i
    induction i with
    | zero =>
      intro _
      show ({ cls := G.2.1 3, slots := Array.replicate _ .null, vm := .none } : Cell) = _
      rw [arrV_new]
      refine congrArg (arrV (G.2.1 3) _) (funext fun j => ?_)
      simp
    | succ i ih =>
      intro hi
      show (Jvm.Free.Multi.outerC (G.2.1 3) n.toNatClampNeg H.size i).setSlot i (.ref (H.size + 1 + i)) = _
      rw [ih (by omega), arrV_store]
      refine congrArg (arrV (G.2.1 3) _) (funext fun j => ?_)
      by_cases e : j = i
      · subst e; simp [updV]
      · by_cases h : j < i
        · simp [updV, e, h, Nat.lt_succ_of_lt h]
        · simp [updV, e, h, show ¬ j < i + 1 by omega]
  have hcell : F.heap[H.size]? = some (vp_cell (G.2.1 3) (n.toNatClampNeg, .inr (.inr (.inr (.inr (fun i => some (H.size + 1 + i))))))) := by
    rw [f2, hout _ (Nat.le_refl _), vp_cell_q]
    refine congrArg some ?_
    refine zarr_congr (fun j hj => ?_)
    rw [if_pos hj]; rfl
  obtain ⟨hKA, hP, hD, hS⟩ := hZ
  have hlt : ∀ (j : Nat) (x : Nat × va_E), ws[j]? = some x → x.1 < H.size := fun j x hx => (hP j x hx).lt
  have hZ1 : ZN G h0 s ((ws ++ [(H.size, .inl (G.2.1 3, n.toNatClampNeg, .inr (.inr (.inr (.inr (fun i => some (H.size + 1 + i)))))))]) ++ (List.range n.toNatClampNeg).map (fun i => (H.size + 1 + i, .inl (G.2.1 0, k.toNatClampNeg, .inl (fun _ => 0))))) F.heap locs := by
    refine ⟨hKA, ?_, ?_, ?_⟩
    · refine va_P.app (va_P.app (hP.kept (fun j x hx => hold x.1 (hlt j x hx))) (fun j x hx => ?_)) (fun j x hx => ?_)
      · match j, hx with
        | 0, hx => cases hx; exact hcell
        | j + 1, hx => cases hx
      · obtain ⟨i, hi, rfl⟩ := List.mem_map.mp (List.mem_of_getElem? hx)
        show F.heap[H.size + 1 + i]? = some (vp_cell _ _)
        rw [hrow i (List.mem_range.mp hi), hin]
        rfl
    · refine va_D.app (va_D.app hD ⟨fun i j x y hi hj _ => ?_, fun j x hx => ?_⟩ (fun i j x y hi hj h => ?_)) ⟨fun i j x y hi hj h => ?_, fun j x hx => ?_⟩ (fun i j x y hi hj h => ?_)
      · match i, j, hi, hj with
        | 0, 0, _, _ => rfl
        | 0, j + 1, _, hj => cases hj
        | i + 1, _, hi, _ => cases hi
      · match j, hx with
        | 0, hx => cases hx; exact Or.inr hS.1
        | j + 1, hx => cases hx
      · match j, hj with
        | 0, hj => cases hj; have := hlt i x hi; simp at h; omega
        | j + 1, hj => cases hj
      · rw [List.getElem?_map, Option.map_eq_some_iff] at hi hj
        obtain ⟨a, ha, rfl⟩ := hi
        obtain ⟨b, hb', rfl⟩ := hj
        rw [List.getElem?_range (by rcases Nat.lt_or_ge i n.toNatClampNeg with q | q; exact q; rw [List.getElem?_eq_none (by simpa using q)] at ha; cases ha)] at ha
        rw [List.getElem?_range (by rcases Nat.lt_or_ge j n.toNatClampNeg with q | q; exact q; rw [List.getElem?_eq_none (by simpa using q)] at hb'; cases hb')] at hb'
        cases ha; cases hb'
        simp at h; omega
      · obtain ⟨i, hi, rfl⟩ := List.mem_map.mp (List.mem_of_getElem? hx)
        exact Or.inr (by have := hS.1; show s.heap.size ≤ H.size + 1 + i; omega)
      · obtain ⟨b, hb', rfl⟩ := List.mem_map.mp (List.mem_of_getElem? hj)
        rcases List.mem_append.mp (List.mem_of_getElem? hi) with h9 | h9
        · obtain ⟨i', hi'⟩ := List.getElem?_of_mem h9
          have := hlt i' x hi'
          simp at h; omega
        · simp at h9; subst h9; simp at h; omega
    · exact ⟨by rw [f1]; have := hS.1; omega, fun x h1 h2 => by rw [hold x (Nat.lt_of_lt_of_le h1 hS.1)]; exact hS.2.1 x h1 h2, hS.2.2⟩
  obtain ⟨t, a1, b1⟩ := kk H.size (fun i => H.size + 1 + i) F.heap hZ1 F rfl X'
  exact ⟨t, step t (by rw [hT]; exact a1), b1⟩
end ZNR

theorem wa_int : Cond.arrayClass .int ∈ zws := zmem 63 (by decide +kernel) (by decide +kernel)
theorem wa_long : Cond.arrayClass .long ∈ zws := zmem 124 (by decide +kernel) (by decide +kernel)
theorem wa_bool : Cond.arrayClass .boolean ∈ zws := zmem 186 (by decide +kernel) (by decide +kernel)
