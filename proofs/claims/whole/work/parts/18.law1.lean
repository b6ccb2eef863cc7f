/-! THE CLAIM OUT OF ONE WALK OF THE LAW'S BODY. Your part is whole_start (and what it stands on); all else here is the same for every law, but numbers. -/
def R_law : String := "ExactShares2Law"
def lw_P (b : Addr) (xs : List Int32) (args : Array Value) (s : State) : Prop := args = #[.ref b] ∧ s.IntsAt b xs ∧ xs.length ≤ 2561 ∧ (Jvm.Cond.and given_1 narrow_1).before args s = true
def lw_Q (_ : Array Value) (s : State) (o : Outcome) (t : State) : Prop := o = .returned (some (.int 1)) ∧ Framed s o t [] 642622 7168204
def lw_Z (below : List Frame) (a : Array Value) (s : State) : State → Prop := fun t => ∃ o, t.status = .running ∧ Ended t below o ∧ lw_Q a s o t
/-- the law's own end, with 1 on the stack, nothing written that was there before, its room as the claim has it -/
theorem lw_ret {p : Program} {l : Launch} {e : Env} {s : State} {m : MethodId} {below : List Frame} {meth : Method} {c : Code} {b : Nat} (hx : p.tables.exec = Jvm.exec) (hb : c.code = code) (hr : meth.sig.returnType = ret) (hlocks : meth.locks = false) {pc : Nat} {H : Heap} {ls : Array Slot} (hdg : decode code pc = .ok (.ireturn, 1)) : W p l e room_1 s m #[Value.ref b] below meth c H [] 642622 7168204 (lw_Z below #[Value.ref b] s) (F0 m pc ls [.int 1]) := by
  intro T hT X
  obtain ⟨fs, hret, hrun, hended, hW, hframe⟩ := X.leave (v := some (.int 1)) (hlocks := hlocks) (fun h => by rw [hr] at h; cases h)
  have hmeth' : T.vm.method? m = some meth := X.method'
  refine ⟨T.setFrames fs, ?_, .returned (some (.int 1)), hrun, hended, rfl, ⟨_, rfl⟩, hW, hframe⟩
  jvm_step X.here [X.here.top, hx, hb, hdg, hmeth', hr, ret, narrow_b1]
  (try refine ⟨rfl, ?_⟩); (try refine ⟨rfl, ?_⟩)
  first | (intro acts; rw [hret _ acts rfl rfl rfl]) | rw [hret _ _ rfl rfl rfl]
  exact Steps.refl _
/-- what holds at the law's entry: the machine, the code, the tables' words (any of lw_tbl by 'hts w (by decide +kernel)'), the script of L ints xs at the cell b, what the Statement gives of the start (any of its parts by flat_of_before) -/
def lw_At (p : Program) (s : State) (m : MethodId) (meth : Method) (c : Code) (b L : Nat) (xs : Nat → Int32) : Prop :=
  p.tables.exec = Jvm.exec ∧ c.code = code ∧ meth.sig.returnType = ret ∧ c.maxLocals = 8 ∧ s.vm.findClass R_law = some m.cls ∧ (∀ w ∈ lw_tbl, w.before #[Value.ref b] s = true) ∧ va_X b L xs s s.heap ∧ b < s.heap.size ∧ meth.locks = false ∧ (Jvm.Cond.and given_1 narrow_1).before #[Value.ref b] s = true
/-! the law's world: the class's object, the reference's, out; how a call leaves the others as they were -/
def zSep (G1 G2 : zG) (o N : Nat) : Prop := (∀ k : Nat, k < 37 → N ≤ G1.1 k) ∧ (∀ k : Nat, k < 18 → N ≤ G2.1 k) ∧ N ≤ o ∧ (∀ k j : Nat, k < 37 → j < 18 → G1.1 k ≠ G2.1 j) ∧ (∀ k : Nat, k < 37 → G1.1 k ≠ o) ∧ (∀ k : Nat, k < 18 → G2.1 k ≠ o)
def ZL (G1 G2 : zG) (o : Nat) (s : State) (M1 M2 : Mem) (fo : Nat → Int64) (H : Heap) (locs : List Loc) : Prop := zIC G1 ∧ zIT G2 ∧ zK G1 s ∧ zK G2 s ∧ va_P G1.2.2 zcl (wlC G1 M1) H ∧ va_P G2.2.2 zcl (wlT G2 M2) H ∧ va_P G1.2.2 zcl (zO G1 o fo) H ∧ zSep G1 G2 o s.heap.size ∧ va_S (fun q => s.heap.size ≤ q) s.heap H locs
section ZLR
variable {p : Program} {l : Launch} {e : Env} {R : Room} {s : State} {m : MethodId} {args : Array Value} {below : List Frame} {meth : Method} {c : Code} {H : Heap} {locs : List Loc} {cells slots : Nat} {Q : State → Prop}
variable {cc : ByteArray} {pc nL : Nat} {ls : Array Slot} {rest : List Value} {G1 G2 : zG} {o : Nat} {M1 M2 M1' M2' : Mem} {fo fo' : Nat → Int64}
theorem zl_PC {av : List Value} (hZ : ZL G1 G2 o s M1 M2 fo H locs) : ∀ U : State, U.heap = H → s.WarmedH U.vm → zPC G1 H.size av M1 av.toArray U := fun U hU hW => ⟨rfl, by rw [hU], hZ.1, zK_warm hW hZ.2.2.1, by rw [hU]; exact hZ.2.2.2.2.1⟩
theorem zl_PT {av : List Value} (hZ : ZL G1 G2 o s M1 M2 fo H locs) : ∀ U : State, U.heap = H → s.WarmedH U.vm → zPT G2 H.size av M2 av.toArray U := fun U hU hW => ⟨rfl, by rw [hU], hZ.2.1, zK_warm hW hZ.2.2.2.1, by rw [hU]; exact hZ.2.2.2.2.2.1⟩
theorem zl_runC {st0 : List Value} {res : Option Value} {a : Array Value} (hr : va_Run p l e R s m args below meth c H locs cells slots 0 0 (F0 m pc ls st0) rest (zQC G1 H.size res M1' a) (zAC G1 H.size)) (hZ : ZL G1 G2 o s M1 M2 fo H locs)
    (kk : ∀ (H1 : Heap) (locs1 : List Loc), ZL G1 G2 o s M1' M2 fo H1 locs1 → W p l e R s m args below meth c H1 locs1 cells slots Q (F0 m (pc + 3) ls (res.toList ++ rest))) : W p l e R s m args below meth c H locs cells slots Q (F0 m pc ls st0) := by
  intro T hT X
  obtain ⟨v, st₀, t, T', L, h0, X', hL, e1, e2, ⟨hv, hP, hz, hk⟩, st⟩ := hr T hT X
  obtain rfl : v = res := by injection hv
  rw [h0] at hz hk
  obtain ⟨hI1, hI2, hK1, hK2, hP1, hP2, hO, hsep, hS⟩ := hZ
  have hA : ∀ q, zAC G1 H.size q → s.heap.size ≤ q := fun q h => by
    rcases h with ⟨k, hk, rfl⟩ | h
    · exact hsep.1 k hk
    · exact Nat.le_trans hS.1 h
  obtain ⟨t2, a1, b1⟩ := kk T'.heap (locs ++ L) ⟨hI1, hI2, hK1, hK2, by rw [e1]; exact hP, hP2.kept (fun k x hx => by
      obtain ⟨b1, b2⟩ := wlAT G2 M2 k x hx
      rw [e1]
      refine hk x.1 (hP2 k x hx).lt (fun z => ?_)
      rcases z with ⟨j, hj, e⟩ | z
      · exact hsep.2.2.2.1 j k hj b2 (by rw [← e, b1])
      · exact Nat.not_le.mpr (hP2 k x hx).lt z), zO_keep hO (by rw [e1]; exact hk o (zO_lt hO) (zC_no hsep.2.2.2.2.1 (zO_lt hO))), hsep,
    ⟨Nat.le_trans hS.1 (by rw [e1]; exact hz), fun q h1 h2 => by rw [e1, hk q (Nat.lt_of_lt_of_le h1 hS.1) (fun z => h2 (hA q z))]; exact hS.2.1 q h1 h2, fun q hq => by
      rcases List.mem_append.mp hq with h | h
      · exact hS.2.2 q h
      · exact hA _ (hL q h)⟩⟩ T' rfl X'
  exact ⟨t2, st t2 a1, b1⟩
theorem zl_runT {st0 : List Value} {res : Option Value} {a : Array Value} (hr : va_Run p l e R s m args below meth c H locs cells slots 0 0 (F0 m pc ls st0) rest (zQT G2 H.size res M2' a) (zAT G2 H.size)) (hZ : ZL G1 G2 o s M1 M2 fo H locs)
    (kk : ∀ (H1 : Heap) (locs1 : List Loc), ZL G1 G2 o s M1 M2' fo H1 locs1 → W p l e R s m args below meth c H1 locs1 cells slots Q (F0 m (pc + 3) ls (res.toList ++ rest))) : W p l e R s m args below meth c H locs cells slots Q (F0 m pc ls st0) := by
  intro T hT X
  obtain ⟨v, st₀, t, T', L, h0, X', hL, e1, e2, ⟨hv, hP, hz, hk⟩, st⟩ := hr T hT X
  obtain rfl : v = res := by injection hv
  rw [h0] at hz hk
  obtain ⟨hI1, hI2, hK1, hK2, hP1, hP2, hO, hsep, hS⟩ := hZ
  have hA : ∀ q, zAT G2 H.size q → s.heap.size ≤ q := fun q h => by
    rcases h with ⟨k, hk, rfl⟩ | h
    · exact hsep.2.1 k hk
    · exact Nat.le_trans hS.1 h
  obtain ⟨t2, a1, b1⟩ := kk T'.heap (locs ++ L) ⟨hI1, hI2, hK1, hK2, hP1.kept (fun k x hx => by
      obtain ⟨b1, b2⟩ := wlAC G1 M1 k x hx
      rw [e1]
      refine hk x.1 (hP1 k x hx).lt (fun z => ?_)
      rcases z with ⟨j, hj, e⟩ | z
      · exact hsep.2.2.2.1 k j b2 hj (by rw [← e, b1])
      · exact Nat.not_le.mpr (hP1 k x hx).lt z), by rw [e1]; exact hP, zO_keep hO (by
        rw [e1]
        refine hk o (zO_lt hO) (fun z => ?_)
        rcases z with ⟨j, hj, e⟩ | z
        · exact hsep.2.2.2.2.2 j hj e.symm
        · exact Nat.not_le.mpr (zO_lt hO) z), hsep,
    ⟨Nat.le_trans hS.1 (by rw [e1]; exact hz), fun q h1 h2 => by rw [e1, hk q (Nat.lt_of_lt_of_le h1 hS.1) (fun z => h2 (hA q z))]; exact hS.2.1 q h1 h2, fun q hq => by
      rcases List.mem_append.mp hq with h | h
      · exact hS.2.2 q h
      · exact hA _ (hL q h)⟩⟩ T' rfl X'
  exact ⟨t2, st t2 a1, b1⟩
theorem zbackH {y : MethodName} {bytes : ByteArray} {maxL : Nat} {ret : Option FieldType} {hs : List (Nat × Nat × Nat × Nat)} {rm : Room} {av : List Value} {kr : Int32} {N0 sz : Nat} (hM : MetH l G1 o y (Cond.codeWith y bytes maxL ret hs :: zws) rm av M1 fo kr M1' fo') (hts : ∀ w ∈ zws, w.before args s = true) (hcode : Cond.codeWith y bytes maxL ret hs ∈ zws) (hini : Cond.initialized y.cls ∈ zws) (hrc : rm.cells = 1) (hrs : rm.slots = 6) (hR : rm.frames + 1 ≤ R.frames ∧ 8 + (maxL + 11) + rm.locals ≤ R.locals) :
    Back l R p e below s args y 3 8 (PreOf R 1 6 (zPH G1 o N0 sz av M1 fo)) (PostOf (zQH G1 o sz kr M1' fo') 1 6 (zAH G1 o sz)) := by
  have hws := pay_in hts (zgo hcode)
  refine Jvm.Free.Back.of_freeWith (S := headSpec (Cond.codeWith y bytes maxL ret hs :: zws) rm) (P := zPH G1 o N0 sz av M1 fo) (K := fun _ _ _ _ _ => True) (Q := fun a st oc t => zQH G1 o sz kr M1' fo' a st oc t ∧ ∃ L, FrameEnd st oc t L 1 6 ∧ ∀ q ∈ L, zAH G1 o sz q.base) (handlers := hs) (bytes := bytes) (maxL := maxL) (ret := ret)
    (E := fun a st oc t L k n => k = 1 ∧ n = 6 ∧ ∀ q ∈ L, zAH G1 o sz q.base) (hM sz N0) hR.1 hR.2 ?_ ?_ (fun _ _ _ _ _ _ _ _ _ => trivial) ?_ ?_
  · intro m meth c A a X hp
    exact ⟨atoms_intro fun w hw => hws w hw _ _ X.warmed, hws _ List.mem_cons_self _ _ X.warmed, hws _ (List.mem_cons_of_mem _ hini) _ _ X.warmed, by rw [show (headSpec (Cond.codeWith y bytes maxL ret hs :: zws) rm).room.cells = 1 from hrc]; exact hp.1, by rw [show (headSpec (Cond.codeWith y bytes maxL ret hs :: zws) rm).room.slots = 6 from hrs]; exact hp.2.1⟩
  · intro m meth c A a g mk X hp
    obtain ⟨q0, q1, qI, qK, qP, qO, qn, qN, qG, qo, qX⟩ := hp.2.2
    exact ⟨q0, q1, qI, zK_same (u := A.U) (U := A.U.calling g mk a) rfl qK, qP, qO, qn, qN, qG, qo, zX_same (u := A.U) (U := A.U.calling g mk a) qX rfl rfl⟩
  · intro a st oc t ⟨hq, L, hF, hL⟩
    exact ⟨L, 1, 6, hF, rfl, rfl, hL⟩
  · intro m meth c A a g mk v t L k n X hp hq hF hE
    obtain ⟨e1, e2, hL⟩ := hE
    subst e1; subst e2
    exact ⟨g, mk, t, L, rfl, rfl, hq.1, rfl, hL, rfl, rfl⟩
theorem zl_callH {y : MethodName} {bytes : ByteArray} {maxL : Nat} {ret : Option FieldType} {hs : List (Nat × Nat × Nat × Nat)} {rm : Room} {kr : Int32} {own : String} {index n : Nat} (As : List Value) (hx0 : p.tables.exec = Jvm.exec) (hb : c.code = cc) (hml : c.maxLocals = nL) (hts : ∀ w ∈ zws, w.before args s = true) (hown : s.vm.findClass own = some m.cls) (hM : MetH l G1 o y (Cond.codeWith y bytes maxL ret hs :: zws) rm As M1 fo kr M1' fo') (hcode : Cond.codeWith y bytes maxL ret hs ∈ zws) (hini : Cond.initialized y.cls ∈ zws) (hst : Cond.static y ∈ zws) (hlink : Cond.methodLink own index y ∈ zws) (hd : y.cls ≠ "java/lang/invoke/MethodHandle" ∧ y.cls ≠ "java/lang/invoke/VarHandle" ∧ (parseMethodDescriptor y.desc).map (fun d => d.parameters.length) = some n) (hZ : ZL G1 G2 o s M1 M2 fo H locs) (hX : zX s.heap.size s) (hrc : rm.cells = 1) (hrs : rm.slots = 6) (hR : rm.frames + 1 ≤ R.frames ∧ 8 + (maxL + 11) + rm.locals ≤ R.locals) (hRc : cells + 1 ≤ R.cells ∧ slots + 6 ≤ R.slots) (hls : ls.size = nL) (hAs : As.length = n) (hW : (rest.map fun v => v.category).sum ≤ 8) (hdg : decode cc pc = .ok (.invokestatic index, 3))
    (kk : ∀ (H1 : Heap) (locs1 : List Loc), ZL G1 G2 o s M1' M2 fo' H1 locs1 → W p l e R s m args below meth c H1 locs1 (cells + 1) (slots + 6) Q (F0 m (pc + 3) ls (.int kr :: rest))) : W p l e R s m args below meth c H locs cells slots Q (F0 m pc ls (As.reverse ++ rest)) := by
  intro T hT X
  obtain ⟨hI1, hI2, hK1, hK2, hP1, hP2, hO, hsep, hS⟩ := id hZ
  obtain ⟨mk, methM, cM, hnamed, hmethM, -, -, -, -, -, -, hsigM⟩ := Cond.codeWith_spec (hts _ hcode)
  have hstatic : methM.isStatic = true := Cond.static_spec hnamed hmethM (hts _ hst)
  obtain ⟨kP, hkP, -⟩ := className_of_methodNamed hnamed
  have hinitP : kP.init = .initialized := Cond.initialized_spec (findClass_of_methodNamed hnamed) hkP (hts _ hini)
  obtain ⟨vm₁, X₁, hstep₁⟩ := X.invokestatic hx0 hown (hts _ hlink) hnamed hmethM hstatic hkP hinitP ⟨hd.1, hd.2.1⟩ (g := F0 m pc ls (As.reverse ++ rest)) rfl (argsL := As) (rest := rest) (by have h2 := hd.2.2; rw [hsigM] at h2; exact hAs.trans (Option.some.inj h2).symm) rfl (by rw [hb]; exact hdg)
  have hpx : zPH G1 o s.heap.size H.size As M1 fo As.toArray (T.setVm vm₁) := ⟨rfl, by rw [← hT]; rfl, hI1, zK_warm X₁.warmed hK1, by rw [← hT] at hP1; exact hP1, by rw [← hT] at hO; exact hO, hsep.2.2.2.2.1, hS.1, hsep.1, hsep.2.2.1, zX_move hX X₁.warmed (fun q h1 => by
    show T.heap[q]? = s.heap[q]?
    rw [hT]
    exact hS.2.1 q h1 (Nat.not_le.mpr h1))⟩
  obtain ⟨v, ⟨U', l2, c2, s2⟩, X', ⟨g', mk', t, L, e1, e2, hq, h1, hL, h2, h3⟩, hsteps⟩ := zbackH (p := p) (e := e) (below := below) (R := R) (N0 := s.heap.size) (sz := H.size) hM hts hcode hini hrc hrs hR m meth c ⟨T.setVm vm₁, locs, cells, slots⟩ { F0 m pc ls (As.reverse ++ rest) with stack := rest } (.invokestatic index) mk As.toArray X₁ rfl (hls.trans hml.symm) (by rw [hb]; exact hdg) (lv_room hW) (X₁.named hnamed) ⟨hRc.1, hRc.2, hpx⟩
  dsimp only [Pt.U, Pt.locs, Pt.cells, Pt.slots] at X' e1 e2 h1 h2 h3 hsteps
  subst h1; subst h2; subst h3
  obtain ⟨hv, hQ1, hQO, hz, hk⟩ := hq
  cases hv
  have hh : ((T.setVm vm₁).calling g' mk' As.toArray).heap = H := hT
  rw [hh] at hz hk
  have hA : ∀ q, zAH G1 o H.size q → s.heap.size ≤ q := fun q h => by
    rcases h with (⟨k, hk, rfl⟩ | h) | rfl
    · exact hsep.1 k hk
    · exact Nat.le_trans hS.1 h
    · exact hsep.2.2.1
  obtain ⟨t2, a1, b1⟩ := kk U'.heap (locs ++ L) ⟨hI1, hI2, hK1, hK2, by rw [e1]; exact hQ1, hP2.kept (fun k x hx => by
      obtain ⟨b1, b2⟩ := wlAT G2 M2 k x hx
      rw [e1]
      refine hk x.1 (hP2 k x hx).lt (fun z => ?_)
      rcases z with (⟨j, hj, e⟩ | z) | z
      · exact hsep.2.2.2.1 j k hj b2 (by rw [← e, b1])
      · exact Nat.not_le.mpr (hP2 k x hx).lt z
      · exact hsep.2.2.2.2.2 k b2 (by rw [← b1, z])), by rw [e1]; exact hQO, hsep,
    ⟨Nat.le_trans hS.1 (by rw [e1]; exact hz), fun q h1 h2 => by rw [e1, hk q (Nat.lt_of_lt_of_le h1 hS.1) (fun z => h2 (hA q z))]; exact hS.2.1 q h1 h2, fun q hq => by
      rcases List.mem_append.mp hq with h | h
      · exact hS.2.2 q h
      · exact hA _ (hL q h)⟩⟩ U' rfl X'
  exact ⟨t2, hstep₁ _ (fun acts => by rw [doInvoke_state]; exact hsteps.trans a1), b1⟩
end ZLR

