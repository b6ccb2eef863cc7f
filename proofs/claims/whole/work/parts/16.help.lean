/-! the law's helpers: a call of the class in a try, its answer into out[0], or 1 where it throws -/
def zO (G : zG) (o : Nat) (fo : Nat → Int64) : va_W := [(o, .inl (G.2.1 1, 1, .inr (.inl fo)))]
def zAH (G : zG) (o sz : Nat) : Nat → Prop := fun q => zAC G sz q ∨ q = o
def ZH (G : zG) (o : Nat) (s : State) (M : Mem) (fo : Nat → Int64) (H : Heap) (locs : List Loc) : Prop := zIC G ∧ zK G s ∧ va_P G.2.2 zcl (wlC G M) H ∧ va_P G.2.2 zcl (zO G o fo) H ∧ (∀ k : Nat, k < 37 → G.1 k ≠ o) ∧ va_S (zAH G o s.heap.size) s.heap H locs
def zPH (G : zG) (o N0 sz : Nat) (av : List Value) (M : Mem) (fo : Nat → Int64) : Array Value → State → Prop := va_Pc av (fun U => U.heap.size = sz ∧ zIC G ∧ zK G U ∧ va_P G.2.2 zcl (wlC G M) U.heap ∧ va_P G.2.2 zcl (zO G o fo) U.heap ∧ (∀ k : Nat, k < 37 → G.1 k ≠ o) ∧ N0 ≤ sz ∧ (∀ k : Nat, k < 37 → N0 ≤ G.1 k) ∧ N0 ≤ o ∧ zX N0 U)
def zQH (G : zG) (o sz : Nat) (kr : Int32) (M : Mem) (fo : Nat → Int64) : Array Value → State → Outcome → State → Prop := fun _ st oc t => oc = .returned (some (.int kr)) ∧ va_P G.2.2 zcl (wlC G M) t.heap ∧ va_P G.2.2 zcl (zO G o fo) t.heap ∧ va_F (zAH G o sz) st t
def MetH (l : Launch) (G : zG) (o : Nat) (y : MethodName) (ws : List Cond) (rm : Room) (av : List Value) (M : Mem) (fo : Nat → Int64) (kr : Int32) (M2 : Mem) (fo2 : Nat → Int64) : Prop :=
  ∀ sz N0 : Nat, Met l y ws rm (zPH G o N0 sz av M fo) (zQH G o sz kr M2 fo2) 1 6 (zAH G o sz)
def zFH (p : Program) (e : Env) (R : Room) (s : State) (m : MethodId) (args : Array Value) (below : List Frame) (meth : Method) (c : Code) (Q : State → Prop) (G : zG) (o N0 : Nat) (cc : ByteArray) (maxL : Nat) (ret : Option FieldType) (hs : List (Nat × Nat × Nat × Nat)) (own : String) (rm : Room) (kr : Int32) (M2 : Mem) (fo2 : Nat → Int64) : Prop :=
  p.tables.exec = Jvm.exec ∧ c.code = cc ∧ c.maxLocals = maxL ∧ meth.sig.returnType = ret ∧ (∀ w ∈ zws, w.before args s = true) ∧ s.vm.findClass own = some m.cls ∧ meth.locks = false ∧ R = rm ∧ Q = MQ below (zQH G o s.heap.size kr M2 fo2) args s 1 6 (zAH G o s.heap.size) ∧ c.exceptionTable.toList.map (fun h => (h.startPc, h.endPc, h.handlerPc, h.catchType)) = hs ∧ N0 ≤ s.heap.size ∧ (∀ k : Nat, k < 37 → N0 ≤ G.1 k) ∧ N0 ≤ o ∧ zX N0 s
theorem z_ofH {l : Launch} {G : zG} {o : Nat} {y : MethodName} {cc : ByteArray} {maxL : Nat} {ret : Option FieldType} {hs : List (Nat × Nat × Nat × Nat)} {rm : Room} {av : List Value} {M M2 : Mem} {fo fo2 : Nat → Int64} {kr : Int32} {lv : List (Nat × Value)} (hy : plainName y.cls = true) (hn : (lg_sl av).length ≤ maxL) (hlv : lv_args 0 av = lv)
    (body : ∀ (p : Program) (e : Env) (R : Room) (s : State) (m : MethodId) (args : Array Value) (below : List Frame) (meth : Method) (c : Code) (Q : State → Prop) (N0 : Nat) (ls : Array Slot), zFH p e R s m args below meth c Q G o N0 cc maxL ret hs y.cls rm kr M2 fo2 → lv_has ls maxL lv → ZH G o s M fo s.heap [] → W p l e R s m args below meth c s.heap [] 0 0 Q (F0 m 0 ls [])) :
    MetH l G o y (Cond.codeWith y cc maxL ret hs :: zws) rm av M fo kr M2 fo2 := by
  intro sz N0
  refine MetFree.of_bodyS (code := cc) (maxLocals := maxL) (ret := ret) hy ?_ ?_
  · intro args s m h hn
    obtain ⟨m', meth, c, h0, h1, h2, h3, h4, -, h5, h6, -⟩ := Cond.codeWith_spec (atoms_spec (ws := Cond.codeWith y cc maxL ret hs :: zws) h _ List.mem_cons_self)
    cases hn.symm.trans h0
    exact ⟨meth, c, h1, h2, h3, h4, h5, h6⟩
  · intro p e s m args below meth c s₁ B hml hv _
    obtain ⟨rfl, hsz, hI, hK, hP, hO, hne, hN, hNG, hNo, hX⟩ := hv
    subst hsz
    have hts := atoms_spec (ws := Cond.codeWith y cc maxL ret hs :: zws) B.pre
    have X₀ := Stand.of_body B
    obtain ⟨m', meth', c', h0, h1, h2, -, -, htab, -⟩ := Cond.codeWith_spec (hts _ List.mem_cons_self)
    cases B.named.symm.trans h0
    cases B.method.symm.trans h1
    cases X₀.code.symm.trans h2
    have hl := lv_entry av (n := maxL) hn
    have hh0 : s₁.heap = s.heap := by rw [B.state]; rfl
    rw [lg_entry_eq]
    generalize (lg_sl av ++ List.replicate (maxL - (lg_sl av).length) Slot.unset).toArray = ls at hl ⊢
    obtain ⟨t, a1, o', b1, b2, b3⟩ := body p e _ s m av.toArray below meth c _ N0 ls ⟨B.exec, B.bytes, hml, B.returns, fun w hw => hts w (List.mem_cons_of_mem _ hw), findClass_of_methodNamed B.named, B.notSynchronized, rfl, rfl, htab, hN, hNG, hNo, hX⟩ (by rw [← hlv]; exact hl) ⟨hI, hK, hP, hO, hne, va_S.rf⟩ s₁ hh0 X₀
    exact ⟨t, o', a1, b1, b2, b3⟩
section ZHR
variable {p : Program} {l : Launch} {e : Env} {R : Room} {s : State} {m : MethodId} {args : Array Value} {below : List Frame} {meth : Method} {c : Code} {H : Heap} {locs : List Loc} {cells slots : Nat} {Q : State → Prop}
variable {cc : ByteArray} {pc nL : Nat} {ls : Array Slot} {rest : List Value} {G : zG} {o : Nat} {M M2 : Mem} {fo : Nat → Int64} {N0 : Nat}
theorem zO_lt (h : va_P G.2.2 zcl (zO G o fo) H) : o < H.size := (h 0 _ rfl).lt
theorem zO_keep {H1 : Heap} (h : va_P G.2.2 zcl (zO G o fo) H) (hk : H1[o]? = H[o]?) : va_P G.2.2 zcl (zO G o fo) H1 := h.kept (fun k x hx => by
  match k, hx with
  | 0, hx => cases hx; exact hk
  | k + 1, hx => cases hx)
theorem zC_no (hne : ∀ k : Nat, k < 37 → G.1 k ≠ o) (hlt : o < H.size) : ¬ zAC G H.size o := fun z => by
  rcases z with ⟨k, hk, e⟩ | z
  · exact hne k hk e.symm
  · exact Nat.not_le.mpr hlt z
theorem zh_run {st0 : List Value} {res : Option Value} {a : Array Value} (hr : va_Run p l e R s m args below meth c H locs cells slots 0 0 (F0 m pc ls st0) rest (zQC G H.size res M2 a) (zAC G H.size)) (hZ : ZH G o s M fo H locs)
    (kk : ∀ (H1 : Heap) (locs1 : List Loc), ZH G o s M2 fo H1 locs1 → W p l e R s m args below meth c H1 locs1 cells slots Q (F0 m (pc + 3) ls (res.toList ++ rest))) : W p l e R s m args below meth c H locs cells slots Q (F0 m pc ls st0) := by
  intro T hT X
  obtain ⟨v, st₀, t, T', L, h0, X', hL, e1, e2, ⟨hv, hP, hz, hk⟩, st⟩ := hr T hT X
  obtain rfl : v = res := by injection hv
  rw [h0] at hz hk
  obtain ⟨hI, hK0, hP0, hO, hne, hS⟩ := hZ
  have hA : ∀ q, zAC G H.size q → zAH G o s.heap.size q := fun q h => Or.inl (zA_up hS.1 h)
  obtain ⟨t2, a1, b1⟩ := kk T'.heap (locs ++ L) ⟨hI, hK0, by rw [e1]; exact hP, zO_keep hO (by rw [e1]; exact hk o (zO_lt hO) (zC_no hne (zO_lt hO))), hne,
    ⟨Nat.le_trans hS.1 (by rw [e1]; exact hz), fun q h1 h2 => by rw [e1, hk q (Nat.lt_of_lt_of_le h1 hS.1) (fun z => h2 (hA q z))]; exact hS.2.1 q h1 h2, fun q hq => by
      rcases List.mem_append.mp hq with h | h
      · exact hS.2.2 q h
      · exact hA _ (hL q h)⟩⟩ T' rfl X'
  exact ⟨t2, st t2 a1, b1⟩
theorem zP_atH {av : List Value} (hZ : ZH G o s M fo H locs) : ∀ U : State, U.heap = H → s.WarmedH U.vm → zPC G H.size av M av.toArray U := fun U hU hW => ⟨rfl, by rw [hU], hZ.1, zK_warm hW hZ.2.1, by rw [hU]; exact hZ.2.2.1⟩
theorem zh_last {v : Int64} (hx0 : p.tables.exec = Jvm.exec) (hb : c.code = cc) (hZ : ZH G o s M fo H locs) (hdg : decode cc pc = .ok (.lastore, 1)) (kk : ∀ (H1 : Heap) (locs1 : List Loc), ZH G o s M (vp_updL fo 0 v) H1 locs1 → W p l e R s m args below meth c H1 locs1 cells slots Q (F0 m (pc + 1) ls rest)) : W p l e R s m args below meth c H locs cells slots Q (F0 m pc ls (.long v :: .int 0 :: .ref o :: rest)) := by
  obtain ⟨hI, hK0, hP0, hO, hne, hS⟩ := hZ
  have hP : va_P G.2.2 zcl (zO G o fo ++ wlC G M) H := hO.app hP0
  have hD : va_D (zAH G o s.heap.size) (zO G o fo ++ wlC G M) := by
    refine va_D.app ⟨fun i j p q hi hj _ => ?_, fun k q hk => ?_⟩ ((wlDC hI M s.heap.size).weaken (fun _ _ _ h => Or.inl h)) (fun i j p q hi hj e => ?_)
    · match i, j, hi, hj with
      | 0, 0, _, _ => rfl
      | 0, j + 1, _, hj => cases hj
      | i + 1, _, hi, _ => cases hi
    · match k, hk with
      | 0, hk => cases hk; exact Or.inr rfl
      | k + 1, hk => cases hk
    · obtain ⟨b1, b2⟩ := wlAC G M j q hj
      match i, hi with
      | 0, hi => cases hi; exact hne j b2 (b1.symm.trans e.symm)
      | i + 1, hi => cases hi
  refine va_last hx0 hb hK0.1 hP hD hS 0 1 rfl rfl (vp_in_nI (n := 0) (by decide) (by decide)) hdg (fun H1 locs1 hP1 _ hS1 => kk H1 locs1 ⟨hI, hK0, ?_, ?_, hne, hS1⟩)
  · exact fun k q hk => hP1 (k + 1) q hk
  · intro k q hk
    match k, hk with
    | 0, hk => cases hk; exact hP1 0 _ rfl
    | k + 1, hk => cases hk
/-- the class's method throws, and is caught here -/
theorem zh_catch {y : MethodName} {bytes : ByteArray} {maxL : Nat} {ret : Option FieldType} {rm : Room} {own C : String} {index n a0 a1 ah ct : Nat} (As : List Value) (hx0 : p.tables.exec = Jvm.exec) (hb : c.code = cc) (hml : c.maxLocals = nL) (hts : ∀ w ∈ zws, w.before args s = true) (hown : s.vm.findClass own = some m.cls) (hM : MetX l G y (Cond.code y bytes maxL ret :: zws) rm (.ref (G.1 0) :: As) M M2) (hcode : Cond.code y bytes maxL ret ∈ zws) (hini : Cond.initialized y.cls ∈ zws) (hins : Cond.instanceMethod y ∈ zws) (hsel : Cond.selects C y y ∈ zws) (hlink : Cond.methodLink own index y ∈ zws) (hcl : Cond.classLink own ct xN ∈ zws) (hd : y.cls ≠ "java/lang/invoke/MethodHandle" ∧ y.cls ≠ "java/lang/invoke/VarHandle" ∧ (parseMethodDescriptor y.desc).map (fun d => d.parameters.length) = some n) (hC : zcl[6]? = some (C, F_ES, 6)) (hZ : ZH G o s M fo H locs) (hN : N0 ≤ s.heap.size) (hNG : ∀ k : Nat, k < 37 → N0 ≤ G.1 k) (hNo : N0 ≤ o) (hX : zX N0 s) (htab : c.exceptionTable.toList.map (fun h => (h.startPc, h.endPc, h.handlerPc, h.catchType)) = [(a0, a1, ah, ct)]) (hcov : a0 ≤ pc ∧ pc < a1) (hct : ct ≠ 0) (hrc : rm.cells = 1) (hrs : rm.slots = 6) (hR : rm.frames + 1 ≤ R.frames ∧ 8 + (maxL + 11) + rm.locals ≤ R.locals) (hRc : 1 ≤ R.cells ∧ 6 ≤ R.slots) (hls : ls.size = nL) (hAs : As.length = n) (hW : (rest.map fun v => v.category).sum ≤ 8) (hdg : decode cc pc = .ok (.invokevirtual index, 3))
    (kk : ∀ (v : Nat) (H1 : Heap) (locs1 : List Loc), ZH G o s M2 fo H1 locs1 → W p l e R s m args below meth c H1 locs1 1 6 Q (F0 m ah ls [.ref v])) :
    W p l e R s m args below meth c H locs 0 0 Q (F0 m pc ls (As.reverse ++ .ref (G.1 0) :: rest)) := by
  intro T hT X
  have hK := zbackT (p := p) (e := e) (below := below) (R := R) (N0 := N0) (sz := H.size) hM hts hcode hini hrc hrs hR
  obtain ⟨hI, hK0, hP0, hO, hne, hS⟩ := id hZ
  obtain ⟨mk, methM, hnamed, hmethM, hstM, habM⟩ := Cond.instanceMethod_spec (hts _ hins)
  obtain ⟨methM', cM, hmethM', -, -, -, -, -, -, hsigM⟩ := Cond.code_spec hnamed (hts _ hcode)
  cases hmethM.symm.trans hmethM'
  obtain ⟨cellB, hcB, hoB, hclB⟩ := va_recv hK0.1 hP0 (ci := 6) (q0 := 0) hC rfl
  obtain ⟨c2, r2, m2, q1, q2, q3, q4, kP, hkP, hkPi⟩ := Cond.selects_spec (hts _ hsel)
  cases hclB.symm.trans q1
  cases (State.methodFound?_of_named hnamed ⟨hd.1, hd.2.1⟩).symm.trans q2
  cases hnamed.symm.trans q3
  have hselP : selectMethod e.platform s.vm cellB.cls mk = .method mk := by rw [Launch.admits_selectMethod X.admits]; exact q4
  obtain ⟨vm₁, X₁, hstep₁⟩ := X.invokevirtual hx0 hown (hts _ hlink) hnamed hmethM hstM hkP hkPi ⟨hd.1, hd.2.1⟩ (a := G.1 0) (cell := cellB) (by rw [hT]; exact hcB)
    (fun z h => by rw [h] at hoB; cases hoB) hselP hmethM habM hkP hkPi (g := F0 m pc ls (As.reverse ++ .ref (G.1 0) :: rest)) rfl (argsL := As) (rest := rest) (by have h2 := hd.2.2; rw [hsigM] at h2; exact hAs.trans (Option.some.inj h2).symm) rfl (by rw [hb]; exact hdg)
  have hpx : zPX G N0 H.size (.ref (G.1 0) :: As) M (Value.ref (G.1 0) :: As).toArray (T.setVm vm₁) := ⟨rfl, by rw [← hT]; rfl, hI, zK_warm X₁.warmed hK0, by rw [← hT] at hP0; exact hP0, Nat.le_trans hN hS.1, hNG, zX_move hX X₁.warmed (fun q h1 => by
    show T.heap[q]? = s.heap[q]?
    rw [hT]
    exact hS.2.1 q (Nat.lt_of_lt_of_le h1 hN) (fun z => by
      rcases z with (⟨k, hk, rfl⟩ | z) | rfl
      · exact Nat.not_le.mpr h1 (hNG k hk)
      · exact Nat.not_le.mpr h1 (Nat.le_trans hN z)
      · exact Nat.not_le.mpr h1 hNo))⟩
  obtain ⟨v, ⟨U', l2, c2, s2⟩, X', ⟨g', mk', t, L, e1, e2, hq, h1, hL, h2, h3⟩, hsteps⟩ := hK m meth c ⟨T.setVm vm₁, locs, 0, 0⟩ { F0 m pc ls (As.reverse ++ .ref (G.1 0) :: rest) with stack := rest } (.invokevirtual index) mk (Value.ref (G.1 0) :: As).toArray X₁ rfl (hls.trans hml.symm) (by rw [hb]; exact hdg) (lv_room hW) (X₁.named hnamed) ⟨by simpa using hRc.1, by simpa using hRc.2, hpx⟩
  dsimp only [Pt.U, Pt.locs, Pt.cells, Pt.slots] at X' e1 e2 h1 h2 h3 hsteps
  subst h1; subst h2; subst h3
  obtain ⟨x, hx, ⟨ce, g1, g2, g3⟩, hP1, ⟨hz, hk⟩, -⟩ := hq
  obtain rfl : v = x := by injection hx
  have hh : ((T.setVm vm₁).calling g' mk' (Value.ref (G.1 0) :: As).toArray).heap = H := hT
  rw [hh] at hz hk
  have g3' : s.vm.findClass xN = some ce.cls := by rw [← X₁.warmed.alike.findClass]; exact g3
  obtain ⟨xe, hxe, hxs⟩ : ∃ xe : ExceptionTableEntry, c.exceptionTable.toList = [xe] ∧ (xe.startPc, xe.endPc, xe.handlerPc, xe.catchType) = (a0, a1, ah, ct) := by
    cases hl0 : c.exceptionTable.toList with
    | nil => rw [hl0] at htab; cases htab
    | cons xe r =>
      rw [hl0] at htab
      cases r with
      | nil => exact ⟨xe, rfl, (List.cons.inj htab).1⟩
      | cons _ _ => cases (List.cons.inj htab).2
  obtain ⟨rfl, rfl, rfl, rfl⟩ : xe.startPc = a0 ∧ xe.endPc = a1 ∧ xe.handlerPc = ah ∧ xe.catchType = ct := by simpa using hxs
  obtain ⟨c3, cT, hc3, hcT, hasg⟩ := Cond.castable_spec (va_Nw.use (A := args) rfl hX.1.1)
  cases g3'.symm.trans hc3
  obtain ⟨vm', XV, stV⟩ := X'.caughtLink v (g := { F0 m pc ls (As.reverse ++ .ref (G.1 0) :: rest) with stack := rest }) rfl hown [] xe [] hxe (fun y hy => by cases hy) (by simp [covers, hcov.1, hcov.2]) hct (hts _ hcl) hcT (by rw [e1]; exact g1) g2 hasg
  have hA : ∀ q, zAC G H.size q → zAH G o s.heap.size q := fun q h => Or.inl (zA_up hS.1 h)
  obtain ⟨t2, a1', b1⟩ := kk v U'.heap (locs ++ L) ⟨hI, hK0, by rw [e1]; exact hP1, zO_keep hO (by rw [e1]; exact hk o (zO_lt hO) (zC_no hne (zO_lt hO))), hne,
    ⟨Nat.le_trans hS.1 (by rw [e1]; exact hz), fun q h1 h2 => by rw [e1, hk q (Nat.lt_of_lt_of_le h1 hS.1) (fun z => h2 (hA q z))]; exact hS.2.1 q h1 h2, fun q hq => by
      rcases List.mem_append.mp hq with h | h
      · exact hS.2.2 q h
      · exact hA _ (hL q h)⟩⟩ (U'.setVm vm') rfl (by simpa using XV)
  refine ⟨t2, hstep₁ _ (fun acts => ?_), b1⟩
  rw [doInvoke_state]
  refine hsteps.trans ?_
  rw [X'.pushThrowing_eq]
  exact stV t2 a1'
end ZHR

