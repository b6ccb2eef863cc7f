/-! the rows of a throw: a callee that throws, and the throw itself -/
def zPostX (G : zG) (sz : Nat) (M2 : Mem) : Pt → Array Value → Addr → Pt → Prop := fun A a x B => ∃ (g : JFrame) (mk : MethodId) (t : State) (L : List Loc), B.U.heap = t.heap ∧ B.U.vm = t.vm ∧ zQX G sz M2 a (A.U.calling g mk a) (.threw x) t ∧ B.locs = A.locs ++ L ∧ (∀ q ∈ L, zAC G sz q.base) ∧ B.cells = A.cells + 1 ∧ B.slots = A.slots + 6
def zPreX (R : Room) (G : zG) (N0 sz : Nat) (av : List Value) (M : Mem) : Pt → Array Value → Prop := fun A a => A.cells + 1 ≤ R.cells ∧ A.slots + 6 ≤ R.slots ∧ zPX G N0 sz av M a A.U
section ZXT
variable {p : Program} {l : Launch} {e : Env} {R : Room} {s : State} {m : MethodId} {args : Array Value} {below : List Frame} {meth : Method} {c : Code} {H : Heap} {locs : List Loc} {cells slots : Nat} {Q : State → Prop}
variable {cc : ByteArray} {pc nL : Nat} {ls : Array Slot} {rest : List Value} {G : zG} {M M2 : Mem} {N0 : Nat}
variable {y : MethodName} {bytes : ByteArray} {maxL : Nat} {ret : Option FieldType} {rm : Room} {av : List Value} {own : String} {index n : Nat}
theorem zbackT {sz : Nat} (hM : MetX l G y (Cond.code y bytes maxL ret :: zws) rm av M M2) (hts : ∀ w ∈ zws, w.before args s = true) (hcode : Cond.code y bytes maxL ret ∈ zws) (hini : Cond.initialized y.cls ∈ zws) (hrc : rm.cells = 1) (hrs : rm.slots = 6) (hR : rm.frames + 1 ≤ R.frames ∧ 8 + (maxL + 11) + rm.locals ≤ R.locals) :
    Jvm.Free.BackT l R p e below s args y 3 8 (zPreX R G N0 sz av M) (zPostX G sz M2) := by
  have hws := pay_in hts (zgo hcode)
  refine Jvm.Free.BackT.of_free (S := headSpec (Cond.code y bytes maxL ret :: zws) rm) (P := zPX G N0 sz av M) (K := fun _ _ _ _ _ => True) (Q := zQX G sz M2) (bytes := bytes) (maxL := maxL) (ret := ret)
    (E := fun a st o t L k n => k = 1 ∧ n = 6 ∧ ∀ q ∈ L, zAC G sz q.base) (hM sz N0) hR.1 hR.2 ?_ ?_ (fun _ _ _ _ _ _ _ _ _ => trivial) ?_ ?_
  · intro m meth c A a X hp
    exact ⟨atoms_intro fun w hw => hws w hw _ _ X.warmed, hws _ List.mem_cons_self _ _ X.warmed, hws _ (List.mem_cons_of_mem _ hini) _ _ X.warmed, by rw [show (headSpec (Cond.code y bytes maxL ret :: zws) rm).room.cells = 1 from hrc]; exact hp.1, by rw [show (headSpec (Cond.code y bytes maxL ret :: zws) rm).room.slots = 6 from hrs]; exact hp.2.1⟩
  · intro m meth c A a g mk X hp
    exact zP_blindX _ _ _ _ hp.2.2
  · intro a st o t hq
    obtain ⟨x, hx, h1, h2, h3, L, hF, hL⟩ := hq
    exact ⟨L, 1, 6, hF, rfl, rfl, hL⟩
  · intro m meth c A a g mk v t L k n X hp hq hF hE
    obtain ⟨e1, e2, hL⟩ := hE
    subst e1; subst e2
    exact ⟨g, mk, t, L, rfl, rfl, hq, rfl, hL, rfl, rfl⟩
theorem zA_up {sz sz' q : Nat} (h : sz ≤ sz') (hq : zAC G sz' q) : zAC G sz q := hq.elim Or.inl (fun z => Or.inr (Nat.le_trans h z))
/-- what a throw below gives, here -/
theorem zx_lift {T U' : State} {vm₁ : Vm} {v : Nat} {a : Array Value} {g : JFrame} {mk : MethodId} {t : State} (hT : T.heap = H) (hW₁ : s.WarmedH vm₁) (hZ : ZZC G s M H locs) (e1 : U'.heap = t.heap) (hq : zQX G H.size M2 a ((T.setVm vm₁).calling g mk a) (.threw v) t) :
    (∃ ce : Cell, U'.heap[v]? = some ce ∧ ce.vm.isStatics = false ∧ s.vm.findClass xN = some ce.cls) ∧ va_P G.2.2 zcl (wlC G M2) U'.heap ∧ va_S (zAC G s.heap.size) s.heap U'.heap locs := by
  obtain ⟨x, hx, ⟨ce, h1, h2, h3⟩, hP, ⟨hz, hk⟩, -⟩ := hq
  obtain rfl : v = x := by injection hx
  obtain ⟨hI, hK0, hP0, hS⟩ := hZ
  have hh : ((T.setVm vm₁).calling g mk a).heap = H := hT
  rw [hh] at hz hk
  refine ⟨⟨ce, by rw [e1]; exact h1, h2, ?_⟩, by rw [e1]; exact hP, Nat.le_trans hS.1 (by rw [e1]; exact hz), fun q h1 h2 => ?_, hS.2.2⟩
  · rw [← hW₁.alike.findClass]; exact h3
  · rw [e1, hk q (Nat.lt_of_lt_of_le h1 hS.1) (fun z => h2 (zA_up hS.1 z))]; exact hS.2.1 q h1 h2
theorem zx_static (As : List Value) (hx0 : p.tables.exec = Jvm.exec) (hb : c.code = cc) (hml : c.maxLocals = nL) (hts : ∀ w ∈ zws, w.before args s = true) (hown : s.vm.findClass own = some m.cls) (hM : MetX l G y (Cond.code y bytes maxL ret :: zws) rm As M M2) (hcode : Cond.code y bytes maxL ret ∈ zws) (hini : Cond.initialized y.cls ∈ zws) (hst : Cond.static y ∈ zws) (hlink : Cond.methodLink own index y ∈ zws) (hd : y.cls ≠ "java/lang/invoke/MethodHandle" ∧ y.cls ≠ "java/lang/invoke/VarHandle" ∧ (parseMethodDescriptor y.desc).map (fun d => d.parameters.length) = some n) (hZ : ZZC G s M H locs) (hN : N0 ≤ s.heap.size) (hNG : ∀ k : Nat, k < 37 → N0 ≤ G.1 k) (hX : zX N0 s) (hlocks : meth.locks = false) (hQ : Q = zQt below G args s M2) (hemp : c.exceptionTable.isEmpty = true) (hrc : rm.cells = 1) (hrs : rm.slots = 6) (hR : rm.frames + 1 ≤ R.frames ∧ 8 + (maxL + 11) + rm.locals ≤ R.locals) (hRc : 1 ≤ R.cells ∧ 6 ≤ R.slots) (hls : ls.size = nL) (hAs : As.length = n) (hW : (rest.map fun v => v.category).sum ≤ 8) (hdg : decode cc pc = .ok (.invokestatic index, 3)) :
    W p l e R s m args below meth c H locs 0 0 Q (F0 m pc ls (As.reverse ++ rest)) := by
  subst hQ
  intro T hT X
  have hcd := hts _ hcode
  obtain ⟨mk, hnamed⟩ := Cond.code_named hcd
  obtain ⟨methM, cM, hmethM, -, -, -, -, -, -, hsigM⟩ := Cond.code_spec hnamed hcd
  obtain ⟨v, vm₁, ⟨U', l2, c2, s2⟩, hW₁, X', ⟨g', mk', t, L, e1, e2, hq, h1, hL, h2, h3⟩, hsteps⟩ := X.staticThrows hx0 hown (hts _ hlink) (hts _ hst) (hts _ hini) hnamed hmethM hsigM ⟨hd.1, hd.2.1⟩ (zbackT (N0 := N0) (sz := H.size) hM hts hcode hini hrc hrs hR) (g := F0 m pc ls (As.reverse ++ rest)) rfl (hls.trans hml.symm) (Steps.refl _) (argsL := As) (rest := rest)
    (fun sig h => by have h2 := hd.2.2; rw [h] at h2; exact hAs.trans (Option.some.inj h2).symm) rfl (lv_room hW) (by rw [hb]; exact hdg) (fun vm₁ hW₁ => ⟨by simpa using hRc.1, by simpa using hRc.2, zP_atX hZ hN hNG hX (T.setVm vm₁) hT hW₁⟩)
  dsimp only [Pt.U, Pt.locs, Pt.cells, Pt.slots] at X' e1 e2 h1 h2 h3 hsteps
  subst h1; subst h2; subst h3
  obtain ⟨hce, hP, hS⟩ := zx_lift hT hW₁ hZ e1 hq
  obtain ⟨hwalk, hrun, hended, hWm, hsame⟩ := X'.leaveThrown v (g := { F0 m pc ls (As.reverse ++ rest) with stack := rest }) rfl rfl rfl (fun x hx => by rw [Array.isEmpty_iff.mp hemp] at hx; cases hx) hlocks
  refine ⟨_, hsteps.trans hwalk, .threw v, hrun, hended, v, rfl, hce, hP, hS.F rfl, locs ++ L, ⟨⟨v, rfl⟩, hWm, by simpa using hsame⟩, fun q hq' => ?_⟩
  rcases List.mem_append.mp hq' with h | h
  · exact hZ.2.2.2.2.2 q h
  · exact zA_up hZ.2.2.2.1 (hL q h)
end ZXT
theorem wx_cl : Cond.classLink R_ES 184 xN ∈ zws := zmem 470 (by decide +kernel) (by decide +kernel)
theorem wx_in : Cond.instantiable xN 6 ∈ zws := zmem 471 (by decide +kernel) (by decide +kernel)
theorem wx_ini : Cond.initialized xN ∈ zws := zmem 13 (by decide +kernel) (by decide +kernel)
theorem zx_throw {p : Program} {l : Launch} {e : Env} {s : State} {m : MethodId} {args : Array Value} {below : List Frame} {meth : Method} {c : Code} {Q : State → Prop} {ls : Array Slot} {G : zG} {M : Mem} {N0 : Nat} {cc : ByteArray} {pc nL : Nat} {R : Room}
    (hx0 : p.tables.exec = Jvm.exec) (hb : c.code = cc) (hml : c.maxLocals = nL) (hts : ∀ w ∈ zws, w.before args s = true) (hown : s.vm.findClass R_ES = some m.cls) (hlocks : meth.locks = false) (hQ : Q = zQt below G args s M) (hemp : c.exceptionTable.isEmpty = true) (htr : e.platform.stackTraces = false) (hX : zX N0 s) (hZ : ZZC G s M s.heap []) (hls : ls.size = nL) (hRc : 1 ≤ R.cells ∧ 6 ≤ R.slots) (hRf : 5 < R.frames) (hRl : 90 ≤ R.locals)
    (h1 : decode cc pc = .ok (.new 184, 3)) (h2 : decode cc (pc + 3) = .ok (.dup, 1)) (h3 : decode cc (pc + 3 + 1) = .ok (.ldc 186, 2)) (h4 : decode cc (pc + 3 + 1 + 2) = .ok (.invokespecial 188, 3)) (h5 : decode cc (pc + 3 + 1 + 2 + 3) = .ok (.athrow, 1)) :
    W p l e R s m args below meth c s.heap [] 0 0 Q (F0 m pc ls []) := by
  subst hQ
  refine W.newc hx0 hb hown (hts _ wx_cl) (hts _ wx_in) (hts _ wx_ini) rfl h1 (by simpa using hRc.1) (by simpa using hRc.2) (fun cC kC hC hkC hord hn6 => ?_)
  refine W.eq (g2 := F0 m (pc + 3) ls [.ref s.heap.size]) rfl ?_
  refine lv_dup hx0 hb h2 rfl ?_
  obtain ⟨q, hq⟩ := hX.2.2.2
  refine va_ldcS hx0 hb hown hq h3 ?_
  intro T hT X
  have hcell : T.heap[s.heap.size]? = some (freshCell cC kC) := by rw [hT]; exact Array.getElem?_push_size
  obtain ⟨U, hst, hrun, hend, hWm, hsame, ce, hce, hOwn⟩ := X.ctorThrowS hx0 htr hown (cls := xN) (names := ["java/lang/RuntimeException", "java/lang/Exception"]) (ic := 188) (by decide) (by decide) (zX_atoms hts hX) (fun x hx => by cases hx) (a := s.heap.size) hC hkC hcell (Nat.le_refl _) (msg := .ref q) rfl (g := F0 m (pc + 3 + 1 + 2) ls [.ref q, .ref s.heap.size, .ref s.heap.size]) rfl (hls.trans hml.symm) rfl rfl (rest := []) rfl (by rw [hb]; exact h4) (by rw [hb]; exact h5) (fun x hx => by rw [Array.isEmpty_iff.mp hemp] at hx; cases hx) (by simpa using hRf) (by show 2 * 0 + 1 + (13 * (2 + 1) + 42) ≤ R.locals; omega) hlocks
  have hold := same_old hsame
  refine ⟨U, hst, .threw s.heap.size, hrun, hend, s.heap.size, rfl, ⟨ce, hce, by rw [hOwn.vm]; rfl, hOwn.cls⟩, hZ.2.2.1.kept (fun k x hx => hold x.1 (hZ.2.2.1 k x hx).lt), ⟨hsame.2.1, fun q hq _ => hold q hq⟩, [], ⟨⟨_, rfl⟩, hWm, by simpa using hsame⟩, fun q hq => by cases hq⟩

