/-! the machine's rows over the world wlC: one list of cells, cell k at the address G.1 k -/
def zIC (G : zG) : Prop := ∀ i j : Nat, i < 37 → j < 37 → G.1 i = G.1 j → i = j
def zAC (G : zG) (sz : Nat) : Nat → Prop := fun q => (∃ k : Nat, k < 37 ∧ q = G.1 k) ∨ sz ≤ q
theorem wlDC {G : zG} (hI : zIC G) (M : Mem) (sz : Nat) : va_D (zAC G sz) (wlC G M) := by
  refine ⟨fun i j p q hi hj e => ?_, fun k q hk => ?_⟩
  · obtain ⟨a1, a2⟩ := wlAC G M i p hi
    obtain ⟨b1, b2⟩ := wlAC G M j q hj
    exact hI i j a2 b2 (by rw [← a1, ← b1]; exact e)
  · obtain ⟨a1, a2⟩ := wlAC G M k q hk
    exact Or.inl ⟨k, a2, a1⟩
def ZZC (G : zG) (s : State) (M : Mem) (H : Heap) (locs : List Loc) : Prop := zIC G ∧ zK G s ∧ va_P G.2.2 zcl (wlC G M) H ∧ va_S (zAC G s.heap.size) s.heap H locs
def zQC (G : zG) (sz : Nat) (res : Option Value) (M : Mem) : Array Value → State → Outcome → State → Prop := fun _ st oc t => oc = .returned res ∧ va_P G.2.2 zcl (wlC G M) t.heap ∧ va_F (zAC G sz) st t
def zPC (G : zG) (sz : Nat) (av : List Value) (M : Mem) : Array Value → State → Prop := va_Pc av (fun U => U.heap.size = sz ∧ zIC G ∧ zK G U ∧ va_P G.2.2 zcl (wlC G M) U.heap)
def MetZC (l : Launch) (G : zG) (y : MethodName) (ws : List Cond) (rm : Room) (av : List Value) (M : Mem) (res : Option Value) (M2 : Mem) : Prop :=
  ∀ sz : Nat, Met l y ws rm (zPC G sz av M) (zQC G sz res M2) 0 0 (zAC G sz)
def zFC (p : Program) (R : Room) (s : State) (m : MethodId) (args : Array Value) (below : List Frame) (meth : Method) (c : Code) (Q : State → Prop) (G : zG) (cc : ByteArray) (maxL : Nat) (ret : Option FieldType) (own : String) (rm : Room) (res : Option Value) (M2 : Mem) : Prop :=
  p.tables.exec = Jvm.exec ∧ c.code = cc ∧ c.maxLocals = maxL ∧ meth.sig.returnType = ret ∧ (∀ w ∈ zws, w.before args s = true) ∧ s.vm.findClass own = some m.cls ∧ meth.locks = false ∧ R = rm ∧ Q = MQ below (zQC G s.heap.size res M2) args s 0 0 (zAC G s.heap.size)
theorem z_ofWC {l : Launch} {G : zG} {y : MethodName} {cc : ByteArray} {maxL : Nat} {ret : Option FieldType} {rm : Room} {av : List Value} {M M2 : Mem} {res : Option Value} {lv : List (Nat × Value)} (hy : plainName y.cls = true) (hn : (lg_sl av).length ≤ maxL) (hlv : lv_args 0 av = lv)
    (body : ∀ (p : Program) (e : Env) (R : Room) (s : State) (m : MethodId) (args : Array Value) (below : List Frame) (meth : Method) (c : Code) (Q : State → Prop) (ls : Array Slot), zFC p R s m args below meth c Q G cc maxL ret y.cls rm res M2 → lv_has ls maxL lv → ZZC G s M s.heap [] → W p l e R s m args below meth c s.heap [] 0 0 Q (F0 m 0 ls [])) :
    MetZC l G y (Cond.code y cc maxL ret :: zws) rm av M res M2 := by
  intro sz
  refine Met.ofW (cc := cc) (maxL := maxL) (ret := ret) hy rfl ?_
  intro p e s m args below meth c s₁ B hml hv
  obtain ⟨rfl, hsz, hI, hK, hP⟩ := hv
  subst hsz
  have hts := atoms_spec (ws := Cond.code y cc maxL ret :: zws) B.pre
  have hl := lv_entry av (n := maxL) hn
  rw [lg_entry_eq]
  generalize (lg_sl av ++ List.replicate (maxL - (lg_sl av).length) Slot.unset).toArray = ls at hl ⊢
  exact body p e _ s m av.toArray below meth c _ ls ⟨B.exec, B.bytes, hml, B.returns, fun w hw => hts w (List.mem_cons_of_mem _ hw), findClass_of_methodNamed B.named, B.notSynchronized, rfl, rfl⟩ (by rw [← hlv]; exact hl) ⟨hI, hK, hP, va_S.rf⟩
section ZRC
variable {p : Program} {l : Launch} {e : Env} {R : Room} {s : State} {m : MethodId} {args : Array Value} {below : List Frame} {meth : Method} {c : Code} {H : Heap} {locs : List Loc} {cells slots : Nat} {Q : State → Prop}
variable {cc : ByteArray} {pc : Nat} {ls : Array Slot} {rest : List Value} {G : zG} {M : Mem} {k : Nat} {i : Int32}
theorem z_ialoadC (hx0 : p.tables.exec = Jvm.exec) (hb : c.code = cc) (hZ : ZZC G s M H locs) (hi : inb i (alenC k) = true) (hdg : decode cc pc = .ok (.iaload, 1)) (kk : W p l e R s m args below meth c H locs cells slots Q (F0 m (pc + 1) ls (.int (M.1 k i.toNatClampNeg) :: rest))) : W p l e R s m args below meth c H locs cells slots Q (F0 m pc ls (.int i :: .ref (G.1 k) :: rest)) :=
  va_iald hx0 hb hZ.2.1.1 hZ.2.2.1 k 0 (wl_iC G M k (inb_pos hi)) rfl (inb_in hi) hdg kk
theorem z_iastoreC {v : Int32} (hx0 : p.tables.exec = Jvm.exec) (hb : c.code = cc) (hZ : ZZC G s M H locs) (hi : inb i (alenC k) = true) (hdg : decode cc pc = .ok (.iastore, 1)) (kk : ∀ (H1 : Heap) (locs1 : List Loc), ZZC G s (wI M k i v) H1 locs1 → W p l e R s m args below meth c H1 locs1 cells slots Q (F0 m (pc + 1) ls rest)) : W p l e R s m args below meth c H locs cells slots Q (F0 m pc ls (.int v :: .int i :: .ref (G.1 k) :: rest)) :=
  va_iast hx0 hb hZ.2.1.1 hZ.2.2.1 (wlDC hZ.1 M s.heap.size) hZ.2.2.2 k 0 (wl_iC G M k (inb_pos hi)) rfl (inb_in hi) hdg (fun H1 locs1 hP _ hS => kk H1 locs1 ⟨hZ.1, hZ.2.1, by rw [← wl_siC G M k i v (inb_pos hi)]; exact hP, hS⟩)
theorem z_baloadC (hx0 : p.tables.exec = Jvm.exec) (hb : c.code = cc) (hZ : ZZC G s M H locs) (hi : inb i (blenC k) = true) (hdg : decode cc pc = .ok (.baload, 1)) (kk : W p l e R s m args below meth c H locs cells slots Q (F0 m (pc + 1) ls (.int (M.1 k i.toNatClampNeg) :: rest))) : W p l e R s m args below meth c H locs cells slots Q (F0 m pc ls (.int i :: .ref (G.1 k) :: rest)) :=
  va_zald hx0 hb hZ.2.1.1 hZ.2.2.1 k 2 (wl_bC G M k (inb_pos hi)) rfl (inb_in hi) hdg kk
theorem z_bastoreC {v : Int32} (hx0 : p.tables.exec = Jvm.exec) (hb : c.code = cc) (hZ : ZZC G s M H locs) (hi : inb i (blenC k) = true) (hdg : decode cc pc = .ok (.bastore, 1)) (kk : ∀ (H1 : Heap) (locs1 : List Loc), ZZC G s (wI M k i (vp_nar .boolean v)) H1 locs1 → W p l e R s m args below meth c H1 locs1 cells slots Q (F0 m (pc + 1) ls rest)) : W p l e R s m args below meth c H locs cells slots Q (F0 m pc ls (.int v :: .int i :: .ref (G.1 k) :: rest)) :=
  va_zast hx0 hb hZ.2.1.1 hZ.2.2.1 (wlDC hZ.1 M s.heap.size) hZ.2.2.2 k 2 (wl_bC G M k (inb_pos hi)) rfl (inb_in hi) hdg (fun H1 locs1 hP _ hS => kk H1 locs1 ⟨hZ.1, hZ.2.1, by rw [← wl_sbC G M k i _ (inb_pos hi)]; exact hP, hS⟩)
theorem z_laloadC (hx0 : p.tables.exec = Jvm.exec) (hb : c.code = cc) (hZ : ZZC G s M H locs) (hi : inb i (llenC k) = true) (hdg : decode cc pc = .ok (.laload, 1)) (kk : W p l e R s m args below meth c H locs cells slots Q (F0 m (pc + 1) ls (.long (M.2 k i.toNatClampNeg) :: rest))) : W p l e R s m args below meth c H locs cells slots Q (F0 m pc ls (.int i :: .ref (G.1 k) :: rest)) :=
  va_lald hx0 hb hZ.2.1.1 hZ.2.2.1 k 1 (wl_lC G M k (inb_pos hi)) rfl (inb_in hi) hdg kk
theorem z_lastoreC {v : Int64} (hx0 : p.tables.exec = Jvm.exec) (hb : c.code = cc) (hZ : ZZC G s M H locs) (hi : inb i (llenC k) = true) (hdg : decode cc pc = .ok (.lastore, 1)) (kk : ∀ (H1 : Heap) (locs1 : List Loc), ZZC G s (wL M k i v) H1 locs1 → W p l e R s m args below meth c H1 locs1 cells slots Q (F0 m (pc + 1) ls rest)) : W p l e R s m args below meth c H locs cells slots Q (F0 m pc ls (.long v :: .int i :: .ref (G.1 k) :: rest)) :=
  va_last hx0 hb hZ.2.1.1 hZ.2.2.1 (wlDC hZ.1 M s.heap.size) hZ.2.2.2 k 1 (wl_lC G M k (inb_pos hi)) rfl (inb_in hi) hdg (fun H1 locs1 hP _ hS => kk H1 locs1 ⟨hZ.1, hZ.2.1, by rw [← wl_slC G M k i v (inb_pos hi)]; exact hP, hS⟩)
theorem z_alenC (hx0 : p.tables.exec = Jvm.exec) (hb : c.code = cc) (hZ : ZZC G s M H locs) (hi : 0 < alenC k) (hdg : decode cc pc = .ok (.arraylength, 1)) (kk : W p l e R s m args below meth c H locs cells slots Q (F0 m (pc + 1) ls (.int (nI (alenC k)) :: rest))) : W p l e R s m args below meth c H locs cells slots Q (F0 m pc ls (.ref (G.1 k) :: rest)) :=
  va_alen hx0 hb hZ.2.1.1 hZ.2.2.1 k 0 (wl_iC G M k hi) rfl rfl hdg kk
theorem z_iretC {cc : ByteArray} {M2 : Mem} {v : Int32} (hx0 : p.tables.exec = Jvm.exec) (hb : c.code = cc) (hr : meth.sig.returnType = some .int) (hZ : ZZC G s M2 H locs) (hlocks : meth.locks = false) (hQ : Q = MQ below (zQC G s.heap.size (some (.int v)) M2) args s 0 0 (zAC G s.heap.size)) (hdg : decode cc pc = .ok (.ireturn, 1)) : W p l e R s m args below meth c H locs 0 0 Q (F0 m pc ls [.int v]) := by
  subst hQ
  exact W.iret (v := v) hx0 hb hr (fun t ht _ => ⟨rfl, by rw [ht]; exact hZ.2.2.1, hZ.2.2.2.F ht⟩) hZ.2.2.2.2.2 hdg hlocks
theorem z_zretC {cc : ByteArray} {M2 : Mem} {v : Int32} (hx0 : p.tables.exec = Jvm.exec) (hb : c.code = cc) (hr : meth.sig.returnType = some .boolean) (hZ : ZZC G s M2 H locs) (hlocks : meth.locks = false) (hQ : Q = MQ below (zQC G s.heap.size (some (.int v)) M2) args s 0 0 (zAC G s.heap.size)) (hn : narrow .boolean (.int v) = .int v) (hdg : decode cc pc = .ok (.ireturn, 1)) : W p l e R s m args below meth c H locs 0 0 Q (F0 m pc ls [.int v]) := by
  subst hQ
  exact W.zret (v := v) hx0 hb hr hn (fun t ht _ => ⟨rfl, by rw [ht]; exact hZ.2.2.1, hZ.2.2.2.F ht⟩) hZ.2.2.2.2.2 hdg hlocks
theorem z_lretC {cc : ByteArray} {M2 : Mem} {v : Int64} (hx0 : p.tables.exec = Jvm.exec) (hb : c.code = cc) (hr : meth.sig.returnType = some .long) (hZ : ZZC G s M2 H locs) (hlocks : meth.locks = false) (hQ : Q = MQ below (zQC G s.heap.size (some (.long v)) M2) args s 0 0 (zAC G s.heap.size)) (hdg : decode cc pc = .ok (.lreturn, 1)) : W p l e R s m args below meth c H locs 0 0 Q (F0 m pc ls [.long v]) := by
  subst hQ
  exact W.lret (v := v) hx0 hb hr (fun t ht _ => ⟨rfl, by rw [ht]; exact hZ.2.2.1, hZ.2.2.2.F ht⟩) hZ.2.2.2.2.2 hdg hlocks
theorem z_aretC {cc : ByteArray} {M2 : Mem} {a : Nat} (hx0 : p.tables.exec = Jvm.exec) (hb : c.code = cc) (hr : meth.sig.returnType = some (.array .int)) (hZ : ZZC G s M2 H locs) (hlocks : meth.locks = false) (hQ : Q = MQ below (zQC G s.heap.size (some (.ref a)) M2) args s 0 0 (zAC G s.heap.size)) (hdg : decode cc pc = .ok (.areturn, 1)) : W p l e R s m args below meth c H locs 0 0 Q (F0 m pc ls [.ref a]) := by
  subst hQ
  exact W.aret (v := .ref a) hx0 hb hr (Or.inr ⟨_, rfl⟩) (Or.inr ⟨_, rfl⟩) (fun t ht _ => ⟨rfl, by rw [ht]; exact hZ.2.2.1, hZ.2.2.2.F ht⟩) hZ.2.2.2.2.2 hdg hlocks
theorem z_vretC {cc : ByteArray} {M2 : Mem} (hx0 : p.tables.exec = Jvm.exec) (hb : c.code = cc) (hr : meth.sig.returnType = none) (hZ : ZZC G s M2 H locs) (hlocks : meth.locks = false) (hQ : Q = MQ below (zQC G s.heap.size none M2) args s 0 0 (zAC G s.heap.size)) (hdg : decode cc pc = .ok (.return_, 1)) : W p l e R s m args below meth c H locs 0 0 Q (F0 m pc ls []) := by
  subst hQ
  exact W.vret hx0 hb hr (fun t ht _ => ⟨rfl, by rw [ht]; exact hZ.2.2.1, hZ.2.2.2.F ht⟩) hZ.2.2.2.2.2 hdg hlocks
theorem z_runC {st0 : List Value} {res : Option Value} {M2 : Mem} {a : Array Value} (hr : va_Run p l e R s m args below meth c H locs cells slots 0 0 (F0 m pc ls st0) rest (zQC G H.size res M2 a) (zAC G H.size)) (hZ : ZZC G s M H locs)
    (kk : ∀ (H1 : Heap) (locs1 : List Loc), ZZC G s M2 H1 locs1 → W p l e R s m args below meth c H1 locs1 cells slots Q (F0 m (pc + 3) ls (res.toList ++ rest))) : W p l e R s m args below meth c H locs cells slots Q (F0 m pc ls st0) := by
  intro T hT X
  obtain ⟨v, st₀, t, T', L, h0, X', hL, e1, e2, ⟨hv, hP, hz, hk⟩, st⟩ := hr T hT X
  obtain rfl : v = res := by injection hv
  rw [h0] at hz hk
  obtain ⟨hI, hK0, hP0, hS⟩ := hZ
  have hA : ∀ q, zAC G H.size q → zAC G s.heap.size q := fun q h => h.elim Or.inl (fun h => Or.inr (Nat.le_trans hS.1 h))
  obtain ⟨t2, a1, b1⟩ := kk T'.heap (locs ++ L) ⟨hI, hK0, by rw [e1]; exact hP,
    ⟨Nat.le_trans hS.1 (by rw [e1]; exact hz), fun q h1 h2 => by rw [e1, hk q (Nat.lt_of_lt_of_le h1 hS.1) (fun z => h2 (hA q z))]; exact hS.2.1 q h1 h2, fun q hq => by
      rcases List.mem_append.mp hq with h | h
      · exact hS.2.2 q h
      · exact hA _ (hL q h)⟩⟩ T' rfl X'
  exact ⟨t2, st t2 a1, b1⟩
theorem zP_blindC {sz : Nat} {av : List Value} : FrameBlind (zPC G sz av M) := fun a U g mk q => by
  obtain ⟨q0, q1, qI, qK, qP⟩ := q
  exact ⟨q0, q1, qI, zK_same (u := U) (U := U.calling g mk a) rfl qK, qP⟩
theorem zP_atC {av : List Value} (hZ : ZZC G s M H locs) : ∀ U : State, U.heap = H → s.WarmedH U.vm → zPC G H.size av M av.toArray U := fun U hU hW => ⟨rfl, by rw [hU], hZ.1, zK_warm hW hZ.2.1, by rw [hU]; exact hZ.2.2.1⟩
end ZRC
/-! the machine's rows over the world wlT: one list of cells, cell k at the address G.1 k -/
def zIT (G : zG) : Prop := ∀ i j : Nat, i < 18 → j < 18 → G.1 i = G.1 j → i = j
def zAT (G : zG) (sz : Nat) : Nat → Prop := fun q => (∃ k : Nat, k < 18 ∧ q = G.1 k) ∨ sz ≤ q
theorem wlDT {G : zG} (hI : zIT G) (M : Mem) (sz : Nat) : va_D (zAT G sz) (wlT G M) := by
  refine ⟨fun i j p q hi hj e => ?_, fun k q hk => ?_⟩
  · obtain ⟨a1, a2⟩ := wlAT G M i p hi
    obtain ⟨b1, b2⟩ := wlAT G M j q hj
    exact hI i j a2 b2 (by rw [← a1, ← b1]; exact e)
  · obtain ⟨a1, a2⟩ := wlAT G M k q hk
    exact Or.inl ⟨k, a2, a1⟩
def ZZT (G : zG) (s : State) (M : Mem) (H : Heap) (locs : List Loc) : Prop := zIT G ∧ zK G s ∧ va_P G.2.2 zcl (wlT G M) H ∧ va_S (zAT G s.heap.size) s.heap H locs
def zQT (G : zG) (sz : Nat) (res : Option Value) (M : Mem) : Array Value → State → Outcome → State → Prop := fun _ st oc t => oc = .returned res ∧ va_P G.2.2 zcl (wlT G M) t.heap ∧ va_F (zAT G sz) st t
def zPT (G : zG) (sz : Nat) (av : List Value) (M : Mem) : Array Value → State → Prop := va_Pc av (fun U => U.heap.size = sz ∧ zIT G ∧ zK G U ∧ va_P G.2.2 zcl (wlT G M) U.heap)
def MetZT (l : Launch) (G : zG) (y : MethodName) (ws : List Cond) (rm : Room) (av : List Value) (M : Mem) (res : Option Value) (M2 : Mem) : Prop :=
  ∀ sz : Nat, Met l y ws rm (zPT G sz av M) (zQT G sz res M2) 0 0 (zAT G sz)
def zFT (p : Program) (R : Room) (s : State) (m : MethodId) (args : Array Value) (below : List Frame) (meth : Method) (c : Code) (Q : State → Prop) (G : zG) (cc : ByteArray) (maxL : Nat) (ret : Option FieldType) (own : String) (rm : Room) (res : Option Value) (M2 : Mem) : Prop :=
  p.tables.exec = Jvm.exec ∧ c.code = cc ∧ c.maxLocals = maxL ∧ meth.sig.returnType = ret ∧ (∀ w ∈ zws, w.before args s = true) ∧ s.vm.findClass own = some m.cls ∧ meth.locks = false ∧ R = rm ∧ Q = MQ below (zQT G s.heap.size res M2) args s 0 0 (zAT G s.heap.size)
theorem z_ofWT {l : Launch} {G : zG} {y : MethodName} {cc : ByteArray} {maxL : Nat} {ret : Option FieldType} {rm : Room} {av : List Value} {M M2 : Mem} {res : Option Value} {lv : List (Nat × Value)} (hy : plainName y.cls = true) (hn : (lg_sl av).length ≤ maxL) (hlv : lv_args 0 av = lv)
    (body : ∀ (p : Program) (e : Env) (R : Room) (s : State) (m : MethodId) (args : Array Value) (below : List Frame) (meth : Method) (c : Code) (Q : State → Prop) (ls : Array Slot), zFT p R s m args below meth c Q G cc maxL ret y.cls rm res M2 → lv_has ls maxL lv → ZZT G s M s.heap [] → W p l e R s m args below meth c s.heap [] 0 0 Q (F0 m 0 ls [])) :
    MetZT l G y (Cond.code y cc maxL ret :: zws) rm av M res M2 := by
  intro sz
  refine Met.ofW (cc := cc) (maxL := maxL) (ret := ret) hy rfl ?_
  intro p e s m args below meth c s₁ B hml hv
  obtain ⟨rfl, hsz, hI, hK, hP⟩ := hv
  subst hsz
  have hts := atoms_spec (ws := Cond.code y cc maxL ret :: zws) B.pre
  have hl := lv_entry av (n := maxL) hn
  rw [lg_entry_eq]
  generalize (lg_sl av ++ List.replicate (maxL - (lg_sl av).length) Slot.unset).toArray = ls at hl ⊢
  exact body p e _ s m av.toArray below meth c _ ls ⟨B.exec, B.bytes, hml, B.returns, fun w hw => hts w (List.mem_cons_of_mem _ hw), findClass_of_methodNamed B.named, B.notSynchronized, rfl, rfl⟩ (by rw [← hlv]; exact hl) ⟨hI, hK, hP, va_S.rf⟩
section ZRT
variable {p : Program} {l : Launch} {e : Env} {R : Room} {s : State} {m : MethodId} {args : Array Value} {below : List Frame} {meth : Method} {c : Code} {H : Heap} {locs : List Loc} {cells slots : Nat} {Q : State → Prop}
variable {cc : ByteArray} {pc : Nat} {ls : Array Slot} {rest : List Value} {G : zG} {M : Mem} {k : Nat} {i : Int32}
theorem z_ialoadT (hx0 : p.tables.exec = Jvm.exec) (hb : c.code = cc) (hZ : ZZT G s M H locs) (hi : inb i (alenT k) = true) (hdg : decode cc pc = .ok (.iaload, 1)) (kk : W p l e R s m args below meth c H locs cells slots Q (F0 m (pc + 1) ls (.int (M.1 k i.toNatClampNeg) :: rest))) : W p l e R s m args below meth c H locs cells slots Q (F0 m pc ls (.int i :: .ref (G.1 k) :: rest)) :=
  va_iald hx0 hb hZ.2.1.1 hZ.2.2.1 k 0 (wl_iT G M k (inb_pos hi)) rfl (inb_in hi) hdg kk
theorem z_iastoreT {v : Int32} (hx0 : p.tables.exec = Jvm.exec) (hb : c.code = cc) (hZ : ZZT G s M H locs) (hi : inb i (alenT k) = true) (hdg : decode cc pc = .ok (.iastore, 1)) (kk : ∀ (H1 : Heap) (locs1 : List Loc), ZZT G s (wI M k i v) H1 locs1 → W p l e R s m args below meth c H1 locs1 cells slots Q (F0 m (pc + 1) ls rest)) : W p l e R s m args below meth c H locs cells slots Q (F0 m pc ls (.int v :: .int i :: .ref (G.1 k) :: rest)) :=
  va_iast hx0 hb hZ.2.1.1 hZ.2.2.1 (wlDT hZ.1 M s.heap.size) hZ.2.2.2 k 0 (wl_iT G M k (inb_pos hi)) rfl (inb_in hi) hdg (fun H1 locs1 hP _ hS => kk H1 locs1 ⟨hZ.1, hZ.2.1, by rw [← wl_siT G M k i v (inb_pos hi)]; exact hP, hS⟩)
theorem z_baloadT (hx0 : p.tables.exec = Jvm.exec) (hb : c.code = cc) (hZ : ZZT G s M H locs) (hi : inb i (blenT k) = true) (hdg : decode cc pc = .ok (.baload, 1)) (kk : W p l e R s m args below meth c H locs cells slots Q (F0 m (pc + 1) ls (.int (M.1 k i.toNatClampNeg) :: rest))) : W p l e R s m args below meth c H locs cells slots Q (F0 m pc ls (.int i :: .ref (G.1 k) :: rest)) :=
  va_zald hx0 hb hZ.2.1.1 hZ.2.2.1 k 2 (wl_bT G M k (inb_pos hi)) rfl (inb_in hi) hdg kk
theorem z_bastoreT {v : Int32} (hx0 : p.tables.exec = Jvm.exec) (hb : c.code = cc) (hZ : ZZT G s M H locs) (hi : inb i (blenT k) = true) (hdg : decode cc pc = .ok (.bastore, 1)) (kk : ∀ (H1 : Heap) (locs1 : List Loc), ZZT G s (wI M k i (vp_nar .boolean v)) H1 locs1 → W p l e R s m args below meth c H1 locs1 cells slots Q (F0 m (pc + 1) ls rest)) : W p l e R s m args below meth c H locs cells slots Q (F0 m pc ls (.int v :: .int i :: .ref (G.1 k) :: rest)) :=
  va_zast hx0 hb hZ.2.1.1 hZ.2.2.1 (wlDT hZ.1 M s.heap.size) hZ.2.2.2 k 2 (wl_bT G M k (inb_pos hi)) rfl (inb_in hi) hdg (fun H1 locs1 hP _ hS => kk H1 locs1 ⟨hZ.1, hZ.2.1, by rw [← wl_sbT G M k i _ (inb_pos hi)]; exact hP, hS⟩)
theorem z_laloadT (hx0 : p.tables.exec = Jvm.exec) (hb : c.code = cc) (hZ : ZZT G s M H locs) (hi : inb i (llenT k) = true) (hdg : decode cc pc = .ok (.laload, 1)) (kk : W p l e R s m args below meth c H locs cells slots Q (F0 m (pc + 1) ls (.long (M.2 k i.toNatClampNeg) :: rest))) : W p l e R s m args below meth c H locs cells slots Q (F0 m pc ls (.int i :: .ref (G.1 k) :: rest)) :=
  va_lald hx0 hb hZ.2.1.1 hZ.2.2.1 k 1 (wl_lT G M k (inb_pos hi)) rfl (inb_in hi) hdg kk
theorem z_lastoreT {v : Int64} (hx0 : p.tables.exec = Jvm.exec) (hb : c.code = cc) (hZ : ZZT G s M H locs) (hi : inb i (llenT k) = true) (hdg : decode cc pc = .ok (.lastore, 1)) (kk : ∀ (H1 : Heap) (locs1 : List Loc), ZZT G s (wL M k i v) H1 locs1 → W p l e R s m args below meth c H1 locs1 cells slots Q (F0 m (pc + 1) ls rest)) : W p l e R s m args below meth c H locs cells slots Q (F0 m pc ls (.long v :: .int i :: .ref (G.1 k) :: rest)) :=
  va_last hx0 hb hZ.2.1.1 hZ.2.2.1 (wlDT hZ.1 M s.heap.size) hZ.2.2.2 k 1 (wl_lT G M k (inb_pos hi)) rfl (inb_in hi) hdg (fun H1 locs1 hP _ hS => kk H1 locs1 ⟨hZ.1, hZ.2.1, by rw [← wl_slT G M k i v (inb_pos hi)]; exact hP, hS⟩)
theorem z_alenT (hx0 : p.tables.exec = Jvm.exec) (hb : c.code = cc) (hZ : ZZT G s M H locs) (hi : 0 < alenT k) (hdg : decode cc pc = .ok (.arraylength, 1)) (kk : W p l e R s m args below meth c H locs cells slots Q (F0 m (pc + 1) ls (.int (nI (alenT k)) :: rest))) : W p l e R s m args below meth c H locs cells slots Q (F0 m pc ls (.ref (G.1 k) :: rest)) :=
  va_alen hx0 hb hZ.2.1.1 hZ.2.2.1 k 0 (wl_iT G M k hi) rfl rfl hdg kk
theorem z_iretT {cc : ByteArray} {M2 : Mem} {v : Int32} (hx0 : p.tables.exec = Jvm.exec) (hb : c.code = cc) (hr : meth.sig.returnType = some .int) (hZ : ZZT G s M2 H locs) (hlocks : meth.locks = false) (hQ : Q = MQ below (zQT G s.heap.size (some (.int v)) M2) args s 0 0 (zAT G s.heap.size)) (hdg : decode cc pc = .ok (.ireturn, 1)) : W p l e R s m args below meth c H locs 0 0 Q (F0 m pc ls [.int v]) := by
  subst hQ
  exact W.iret (v := v) hx0 hb hr (fun t ht _ => ⟨rfl, by rw [ht]; exact hZ.2.2.1, hZ.2.2.2.F ht⟩) hZ.2.2.2.2.2 hdg hlocks
theorem z_zretT {cc : ByteArray} {M2 : Mem} {v : Int32} (hx0 : p.tables.exec = Jvm.exec) (hb : c.code = cc) (hr : meth.sig.returnType = some .boolean) (hZ : ZZT G s M2 H locs) (hlocks : meth.locks = false) (hQ : Q = MQ below (zQT G s.heap.size (some (.int v)) M2) args s 0 0 (zAT G s.heap.size)) (hn : narrow .boolean (.int v) = .int v) (hdg : decode cc pc = .ok (.ireturn, 1)) : W p l e R s m args below meth c H locs 0 0 Q (F0 m pc ls [.int v]) := by
  subst hQ
  exact W.zret (v := v) hx0 hb hr hn (fun t ht _ => ⟨rfl, by rw [ht]; exact hZ.2.2.1, hZ.2.2.2.F ht⟩) hZ.2.2.2.2.2 hdg hlocks
theorem z_lretT {cc : ByteArray} {M2 : Mem} {v : Int64} (hx0 : p.tables.exec = Jvm.exec) (hb : c.code = cc) (hr : meth.sig.returnType = some .long) (hZ : ZZT G s M2 H locs) (hlocks : meth.locks = false) (hQ : Q = MQ below (zQT G s.heap.size (some (.long v)) M2) args s 0 0 (zAT G s.heap.size)) (hdg : decode cc pc = .ok (.lreturn, 1)) : W p l e R s m args below meth c H locs 0 0 Q (F0 m pc ls [.long v]) := by
  subst hQ
  exact W.lret (v := v) hx0 hb hr (fun t ht _ => ⟨rfl, by rw [ht]; exact hZ.2.2.1, hZ.2.2.2.F ht⟩) hZ.2.2.2.2.2 hdg hlocks
theorem z_aretT {cc : ByteArray} {M2 : Mem} {a : Nat} (hx0 : p.tables.exec = Jvm.exec) (hb : c.code = cc) (hr : meth.sig.returnType = some (.array .int)) (hZ : ZZT G s M2 H locs) (hlocks : meth.locks = false) (hQ : Q = MQ below (zQT G s.heap.size (some (.ref a)) M2) args s 0 0 (zAT G s.heap.size)) (hdg : decode cc pc = .ok (.areturn, 1)) : W p l e R s m args below meth c H locs 0 0 Q (F0 m pc ls [.ref a]) := by
  subst hQ
  exact W.aret (v := .ref a) hx0 hb hr (Or.inr ⟨_, rfl⟩) (Or.inr ⟨_, rfl⟩) (fun t ht _ => ⟨rfl, by rw [ht]; exact hZ.2.2.1, hZ.2.2.2.F ht⟩) hZ.2.2.2.2.2 hdg hlocks
theorem z_vretT {cc : ByteArray} {M2 : Mem} (hx0 : p.tables.exec = Jvm.exec) (hb : c.code = cc) (hr : meth.sig.returnType = none) (hZ : ZZT G s M2 H locs) (hlocks : meth.locks = false) (hQ : Q = MQ below (zQT G s.heap.size none M2) args s 0 0 (zAT G s.heap.size)) (hdg : decode cc pc = .ok (.return_, 1)) : W p l e R s m args below meth c H locs 0 0 Q (F0 m pc ls []) := by
  subst hQ
  exact W.vret hx0 hb hr (fun t ht _ => ⟨rfl, by rw [ht]; exact hZ.2.2.1, hZ.2.2.2.F ht⟩) hZ.2.2.2.2.2 hdg hlocks
theorem z_runT {st0 : List Value} {res : Option Value} {M2 : Mem} {a : Array Value} (hr : va_Run p l e R s m args below meth c H locs cells slots 0 0 (F0 m pc ls st0) rest (zQT G H.size res M2 a) (zAT G H.size)) (hZ : ZZT G s M H locs)
    (kk : ∀ (H1 : Heap) (locs1 : List Loc), ZZT G s M2 H1 locs1 → W p l e R s m args below meth c H1 locs1 cells slots Q (F0 m (pc + 3) ls (res.toList ++ rest))) : W p l e R s m args below meth c H locs cells slots Q (F0 m pc ls st0) := by
  intro T hT X
  obtain ⟨v, st₀, t, T', L, h0, X', hL, e1, e2, ⟨hv, hP, hz, hk⟩, st⟩ := hr T hT X
  obtain rfl : v = res := by injection hv
  rw [h0] at hz hk
  obtain ⟨hI, hK0, hP0, hS⟩ := hZ
  have hA : ∀ q, zAT G H.size q → zAT G s.heap.size q := fun q h => h.elim Or.inl (fun h => Or.inr (Nat.le_trans hS.1 h))
  obtain ⟨t2, a1, b1⟩ := kk T'.heap (locs ++ L) ⟨hI, hK0, by rw [e1]; exact hP,
    ⟨Nat.le_trans hS.1 (by rw [e1]; exact hz), fun q h1 h2 => by rw [e1, hk q (Nat.lt_of_lt_of_le h1 hS.1) (fun z => h2 (hA q z))]; exact hS.2.1 q h1 h2, fun q hq => by
      rcases List.mem_append.mp hq with h | h
      · exact hS.2.2 q h
      · exact hA _ (hL q h)⟩⟩ T' rfl X'
  exact ⟨t2, st t2 a1, b1⟩
theorem zP_blindT {sz : Nat} {av : List Value} : FrameBlind (zPT G sz av M) := fun a U g mk q => by
  obtain ⟨q0, q1, qI, qK, qP⟩ := q
  exact ⟨q0, q1, qI, zK_same (u := U) (U := U.calling g mk a) rfl qK, qP⟩
theorem zP_atT {av : List Value} (hZ : ZZT G s M H locs) : ∀ U : State, U.heap = H → s.WarmedH U.vm → zPT G H.size av M av.toArray U := fun U hU hW => ⟨rfl, by rw [hU], hZ.1, zK_warm hW hZ.2.1, by rw [hU]; exact hZ.2.2.1⟩
end ZRT

