/-! a call that ends in a throw of ArithmeticException -/
def xN : String := "java/lang/ArithmeticException"
def xAtoms : List Cond := Jvm.Bundle.ownAtoms R_ES 188 xN ["java/lang/RuntimeException", "java/lang/Exception"]
def xUn : Cond := .isRef (.static Jvm.Bundle.tN "UNASSIGNED_STACK" Jvm.Bundle.steD)
def xSu : Cond := .isRef (.static Jvm.Bundle.tN "SUPPRESSED_SENTINEL" Jvm.Bundle.listD)
def xD (n : String) : Cond := .declares (Jvm.Bundle.initS n)
theorem xGood : xAtoms.all (fun w => decide (w ∈ zws) || (decide (w = Cond.castable xN xN) || (decide (w = xUn) || (decide (w = xSu) || (decide (w = xD "java/lang/RuntimeException") || (decide (w = xD "java/lang/Exception") || (decide (w = xD Jvm.Bundle.tN) || (decide (w = Cond.laysStatic Jvm.Bundle.tN "UNASSIGNED_STACK" Jvm.Bundle.steD) || decide (w = Cond.laysStatic Jvm.Bundle.tN "SUPPRESSED_SENTINEL" Jvm.Bundle.listD))))))))) = true := by decide +kernel
def zS (C n d : String) (N0 : Nat) (U : State) : Prop := ∃ (c : ClassId) (k : Class) (i : Nat) (f : Field) (a : Nat) (cell : Cell) (v : Value), U.vm.findClass C = some c ∧ U.fieldFound? C n d = some (c, k, i, f) ∧ f.isStatic = true ∧ k.statics = some a ∧ U.heap[a]? = some cell ∧ cell.vm.isStatics = true ∧ cell.cls = c ∧ f.slot < cell.slots.size ∧ k.staticTypes[f.slot]? = some f.type ∧ cell.slots[f.slot]? = some v ∧ (v = .null ∨ ∃ t : Nat, v = .ref t) ∧ a < N0
theorem zS_move {C n d : String} {N0 : Nat} {s U : State} (hvm : s.vm.Alike U.vm) (hk : ∀ q : Nat, q < N0 → U.heap[q]? = s.heap[q]?) (h : zS C n d N0 s) : zS C n d N0 U := by
  obtain ⟨c, k, i, f, a, cell, v, h1, h2, h3, h4, h5, h6, h7, h8, h9, h10, h11, h12⟩ := h
  obtain ⟨k', hi', he⟩ := State.fieldFound?_setVm hvm h2
  exact ⟨c, k', i, f, a, cell, v, by rw [hvm.findClass]; exact h1, hi', h3, by rw [he]; exact h4, by rw [hk a h12]; exact h5, h6, h7, h8, by rw [he]; exact h9, h10, h11, h12⟩
theorem zS_lays {C n d : String} {N0 : Nat} {s : State} {args : Array Value} (h : zS C n d N0 s) : (Cond.laysStatic C n d).before args s = true := by
  obtain ⟨c, k, i, f, a, cell, v, h1, h2, h3, h4, h5, h6, h7, h8, h9, h10, h11, h12⟩ := h
  exact Cond.laysStatic_of h1 h2 h3 h4 h5 h6 h7 h8 h9
theorem zS_isRef {C n d : String} {N0 : Nat} {s : State} {args : Array Value} (h : zS C n d N0 s) : (Cond.isRef (.static C n d)).before args s = true := by
  obtain ⟨c, k, i, f, a, cell, v, h1, h2, h3, h4, h5, h6, h7, h8, h9, h10, h11, h12⟩ := h
  rcases h11 with rfl | ⟨t, rfl⟩ <;> simp [Cond.before, Cond.holds, Cond.value, Term.eval, State.fieldNamed?, h2, h3, h4, h5, h6, h10]
theorem zS_of {C n d : String} {s : State} {args : Array Value} (hl : (Cond.laysStatic C n d).before args s = true) (hr : (Cond.isRef (.static C n d)).before args s = true) : zS C n d s.heap.size s := by
  obtain ⟨c, k, i, f, a, cell, h1, h2, h3, h4, h5, h6, h7, h8, h9⟩ := Cond.laysStatic_spec hl
  cases hv : (Term.static C n d).eval args s none [] s with
  | none => simp [Cond.before, Cond.holds, Cond.value, hv] at hr
  | some w =>
    obtain ⟨-, a', cell', ha', hcell', -, hslot⟩ := Term.static_spec h2 hv
    cases h4.symm.trans ha'
    cases h5.symm.trans hcell'
    refine ⟨c, k, i, f, a, cell, w, h1, h2, h3, h4, h5, h6, h7, h8, h9, hslot, ?_, (Array.getElem?_eq_some_iff.mp h5).1⟩
    simp only [Cond.before, Cond.holds, Cond.value, hv] at hr
    cases w with
    | null => exact Or.inl rfl
    | ref t => exact Or.inr ⟨t, rfl⟩
    | _ => simp at hr
def zX (N0 : Nat) (U : State) : Prop := (va_Nw (.castable xN xN) U ∧ va_Nw (xD "java/lang/RuntimeException") U ∧ va_Nw (xD "java/lang/Exception") U ∧ va_Nw (xD Jvm.Bundle.tN) U) ∧ zS Jvm.Bundle.tN "UNASSIGNED_STACK" Jvm.Bundle.steD N0 U ∧ zS Jvm.Bundle.tN "SUPPRESSED_SENTINEL" Jvm.Bundle.listD N0 U ∧ ∃ a : Nat, vk_R R_ES 186 "there is no background row" a U
theorem zX_atoms {N0 : Nat} {s : State} {args : Array Value} (hts : ∀ w ∈ zws, w.before args s = true) (hX : zX N0 s) : ∀ w ∈ xAtoms, w.before args s = true := by
  intro w hw
  have h := List.all_eq_true.mp xGood w hw
  simp only [Bool.or_eq_true, decide_eq_true_eq] at h
  rcases h with h | rfl | rfl | rfl | rfl | rfl | rfl | rfl | rfl
  · exact hts w h
  · exact va_Nw.use rfl hX.1.1
  · exact zS_isRef hX.2.1
  · exact zS_isRef hX.2.2.1
  · exact va_Nw.use rfl hX.1.2.1
  · exact va_Nw.use rfl hX.1.2.2.1
  · exact va_Nw.use rfl hX.1.2.2.2
  · exact zS_lays hX.2.1
  · exact zS_lays hX.2.2.1
theorem zX_move {N0 : Nat} {s U : State} (hX : zX N0 s) (hW : s.WarmedH U.vm) (hk : ∀ q : Nat, q < N0 → U.heap[q]? = s.heap[q]?) : zX N0 U := by
  obtain ⟨h1, h2, h3, a, h4⟩ := hX
  exact ⟨⟨va_Nw.warmC hW h1.1, va_Nw.warmD hW h1.2.1, va_Nw.warmD hW h1.2.2.1, va_Nw.warmD hW h1.2.2.2⟩, zS_move hW.alike hk h2, zS_move hW.alike hk h3, a, vk_R.warm hW h4⟩
theorem zX_same {N0 : Nat} {u U : State} (hX : zX N0 u) (hv : u.vm = U.vm) (hh : u.heap = U.heap) : zX N0 U := by
  obtain ⟨h1, h2, h3, a, h4⟩ := hX
  have hal : u.vm.Alike U.vm := hv ▸ Vm.Alike.refl u.vm
  exact ⟨⟨va_Nw.same rfl hv h1.1, va_Nw.same rfl hv h1.2.1, va_Nw.same rfl hv h1.2.2.1, va_Nw.same rfl hv h1.2.2.2⟩, zS_move hal (fun q _ => by rw [hh]) h2, zS_move hal (fun q _ => by rw [hh]) h3, a, vk_R.same hv.symm h4⟩
def zQX (G : zG) (sz : Nat) (M : Mem) : Array Value → State → Outcome → State → Prop := fun _ st oc t => ∃ a : Nat, oc = .threw a ∧ (∃ ce : Cell, t.heap[a]? = some ce ∧ ce.vm.isStatics = false ∧ st.vm.findClass xN = some ce.cls) ∧ va_P G.2.2 zcl (wlC G M) t.heap ∧ va_F (zAC G sz) st t ∧ ∃ L : List Loc, Jvm.Free.FrameEndT st oc t L 1 6 ∧ ∀ q ∈ L, zAC G sz q.base
def zPX (G : zG) (N0 sz : Nat) (av : List Value) (M : Mem) : Array Value → State → Prop := va_Pc av (fun U => U.heap.size = sz ∧ zIC G ∧ zK G U ∧ va_P G.2.2 zcl (wlC G M) U.heap ∧ N0 ≤ sz ∧ (∀ k : Nat, k < 37 → N0 ≤ G.1 k) ∧ zX N0 U)
def MetX (l : Launch) (G : zG) (y : MethodName) (ws : List Cond) (rm : Room) (av : List Value) (M M2 : Mem) : Prop :=
  ∀ sz N0 : Nat, MetFree l y (headSpec ws rm) (zPX G N0 sz av M) (fun _ _ _ _ _ => True) (zQX G sz M2)
def zQt (below : List Frame) (G : zG) (args : Array Value) (s : State) (M2 : Mem) : State → Prop := fun t => ∃ o, t.status = .running ∧ Ended t below o ∧ zQX G s.heap.size M2 args s o t
def zFX (p : Program) (e : Env) (R : Room) (s : State) (m : MethodId) (args : Array Value) (below : List Frame) (meth : Method) (c : Code) (Q : State → Prop) (G : zG) (N0 : Nat) (cc : ByteArray) (maxL : Nat) (ret : Option FieldType) (own : String) (rm : Room) (M2 : Mem) : Prop :=
  p.tables.exec = Jvm.exec ∧ c.code = cc ∧ c.maxLocals = maxL ∧ meth.sig.returnType = ret ∧ (∀ w ∈ zws, w.before args s = true) ∧ s.vm.findClass own = some m.cls ∧ meth.locks = false ∧ R = rm ∧ Q = zQt below G args s M2 ∧ c.exceptionTable.isEmpty = true ∧ e.platform.stackTraces = false ∧ N0 ≤ s.heap.size ∧ (∀ k : Nat, k < 37 → N0 ≤ G.1 k) ∧ zX N0 s
theorem z_ofX {l : Launch} (hfl : l.flags = pinnedFlags ++ [noTraceFlag]) {G : zG} {y : MethodName} {cc : ByteArray} {maxL : Nat} {ret : Option FieldType} {rm : Room} {av : List Value} {M M2 : Mem} {lv : List (Nat × Value)} (hy : plainName y.cls = true) (hn : (lg_sl av).length ≤ maxL) (hlv : lv_args 0 av = lv)
    (body : ∀ (p : Program) (e : Env) (R : Room) (s : State) (m : MethodId) (args : Array Value) (below : List Frame) (meth : Method) (c : Code) (Q : State → Prop) (N0 : Nat) (ls : Array Slot), zFX p e R s m args below meth c Q G N0 cc maxL ret y.cls rm M2 → lv_has ls maxL lv → ZZC G s M s.heap [] → W p l e R s m args below meth c s.heap [] 0 0 Q (F0 m 0 ls [])) :
    MetX l G y (Cond.code y cc maxL ret :: zws) rm av M M2 := by
  intro sz N0
  refine MetFree.of_bodyS (code := cc) (maxLocals := maxL) (ret := ret) hy ?_ ?_
  · intro args s m h hn
    obtain ⟨meth, c, h1, h2, h3, h4, h5, h6, -, -⟩ := Cond.code_spec hn (atoms_spec (ws := Cond.code y cc maxL ret :: zws) h _ List.mem_cons_self)
    exact ⟨meth, c, h1, h2, h3, h4, h5, h6⟩
  · intro p e s m args below meth c s₁ B hml hv _
    obtain ⟨rfl, hsz, hI, hK, hP, hN, hNG, hX⟩ := hv
    subst hsz
    have hts := atoms_spec (ws := Cond.code y cc maxL ret :: zws) B.pre
    have hl := lv_entry av (n := maxL) hn
    have hh0 : s₁.heap = s.heap := by rw [B.state]; rfl
    rw [lg_entry_eq]
    generalize (lg_sl av ++ List.replicate (maxL - (lg_sl av).length) Slot.unset).toArray = ls at hl ⊢
    have X₀ := Stand.of_body B
    obtain ⟨t, a1, o, b1, b2, b3⟩ := body p e _ s m av.toArray below meth c _ N0 ls ⟨B.exec, B.bytes, hml, B.returns, fun w hw => hts w (List.mem_cons_of_mem _ hw), findClass_of_methodNamed B.named, B.notSynchronized, rfl, rfl, BodyLoose.noHandlers B (hts _ List.mem_cons_self), Launch.traces_off hfl X₀.admits, hN, hNG, hX⟩ (by rw [← hlv]; exact hl) ⟨hI, hK, hP, va_S.rf⟩ s₁ hh0 X₀
    exact ⟨t, o, a1, b1, b2, b3⟩
theorem same_old {s t : State} {k n : Nat} (h : s.sameButNew t [] k n) : ∀ q : Nat, q < s.heap.size → t.heap[q]? = s.heap[q]? := by
  intro q hq
  obtain ⟨-, -, -, -, -, h6⟩ := h
  obtain ⟨c', e1, e2, e3, e4⟩ := h6 q s.heap[q] (Array.getElem?_eq_getElem hq)
  rw [e1, Array.getElem?_eq_getElem hq]
  have : c'.slots = (s.heap[q]).slots := Array.ext_getElem? (fun i => e4 i (by simp))
  rw [e2, this]
section ZXR
variable {p : Program} {l : Launch} {e : Env} {R : Room} {s : State} {m : MethodId} {args : Array Value} {below : List Frame} {meth : Method} {c : Code} {H : Heap} {locs : List Loc} {cells slots : Nat} {Q : State → Prop}
variable {cc : ByteArray} {pc nL : Nat} {ls : Array Slot} {rest : List Value} {G : zG} {M : Mem} {N0 : Nat}
theorem zP_blindX {sz : Nat} {av : List Value} : FrameBlind (zPX G N0 sz av M) := fun a U g mk q => by
  obtain ⟨q0, q1, qI, qK, qP, qN, qG, qX⟩ := q
  exact ⟨q0, q1, qI, zK_same (u := U) (U := U.calling g mk a) rfl qK, qP, qN, qG, zX_same (u := U) (U := U.calling g mk a) qX rfl rfl⟩
theorem zP_atX {av : List Value} (hZ : ZZC G s M H locs) (hN : N0 ≤ s.heap.size) (hNG : ∀ k : Nat, k < 37 → N0 ≤ G.1 k) (hX : zX N0 s) : ∀ U : State, U.heap = H → s.WarmedH U.vm → zPX G N0 H.size av M av.toArray U := fun U hU hW =>
  ⟨rfl, by rw [hU], hZ.1, zK_warm hW hZ.2.1, by rw [hU]; exact hZ.2.2.1, Nat.le_trans hN hZ.2.2.2.1, hNG, zX_move hX hW (fun q h1 => by
    rw [hU]
    exact hZ.2.2.2.2.1 q (Nat.lt_of_lt_of_le h1 hN) (fun z => by
      rcases z with ⟨k, hk, rfl⟩ | z
      · exact Nat.not_le.mpr h1 (hNG k hk)
      · exact Nat.not_le.mpr h1 (Nat.le_trans hN z)))⟩
end ZXR

