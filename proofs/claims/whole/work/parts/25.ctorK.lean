def wlK (G : zG) (M : Mem) : va_W := [(G.1 0, .inr (2, [.int (M.1 0 0), .ref (G.1 1)])),
  (G.1 1, .inl (G.2.1 0, 6, .inl (M.1 1)))]
def alenK (k : Nat) : Nat := match k with
  | 1 => 6
  | _ => 0
def blenK (k : Nat) : Nat := match k with
  | _ => 0
def llenK (k : Nat) : Nat := match k with
  | _ => 0
theorem wlAK (G : zG) (M : Mem) (k : Nat) (q : Nat × va_E) (h : (wlK G M)[k]? = some q) : q.1 = G.1 k ∧ k < 2 := by
  match k, h with
  | 0, h => cases h; exact ⟨rfl, by decide⟩
  | 1, h => cases h; exact ⟨rfl, by decide⟩
  | k + 2, h => cases h
theorem wl_iK (G : zG) (M : Mem) (k : Nat) (h : 0 < alenK k) : (wlK G M)[k]? = some (G.1 k, .inl (G.2.1 0, alenK k, .inl (M.1 k))) := by
  match k, h with
  | 0, h => exact absurd h (by decide)
  | 1, h => rfl
  | k + 2, h => exact absurd h (by simp [alenK])
theorem wl_siK (G : zG) (M : Mem) (k : Nat) (i : Int32) (v : Int32) (h : 0 < alenK k) : (wlK G M).set k (G.1 k, .inl (G.2.1 0, alenK k, .inl (upd (M.1 k) i.toNatClampNeg v))) = wlK G (wI M k i v) := by
  match k, h with
  | 0, h => exact absurd h (by decide)
  | 1, h => rfl
  | k + 2, h => exact absurd h (by simp [alenK])
theorem wl_bK (G : zG) (M : Mem) (k : Nat) (h : 0 < blenK k) : (wlK G M)[k]? = some (G.1 k, .inl (G.2.1 2, blenK k, .inl (M.1 k))) := by
  match k, h with
  | 0, h => exact absurd h (by decide)
  | 1, h => exact absurd h (by decide)
  | k + 2, h => exact absurd h (by simp [blenK])
theorem wl_sbK (G : zG) (M : Mem) (k : Nat) (i : Int32) (v : Int32) (h : 0 < blenK k) : (wlK G M).set k (G.1 k, .inl (G.2.1 2, blenK k, .inl (upd (M.1 k) i.toNatClampNeg v))) = wlK G (wI M k i v) := by
  match k, h with
  | 0, h => exact absurd h (by decide)
  | 1, h => exact absurd h (by decide)
  | k + 2, h => exact absurd h (by simp [blenK])
theorem wl_lK (G : zG) (M : Mem) (k : Nat) (h : 0 < llenK k) : (wlK G M)[k]? = some (G.1 k, .inl (G.2.1 1, llenK k, .inr (.inl (M.2 k)))) := by
  match k, h with
  | 0, h => exact absurd h (by decide)
  | 1, h => exact absurd h (by decide)
  | k + 2, h => exact absurd h (by simp [llenK])
theorem wl_slK (G : zG) (M : Mem) (k : Nat) (i : Int32) (v : Int64) (h : 0 < llenK k) : (wlK G M).set k (G.1 k, .inl (G.2.1 1, llenK k, .inr (.inl (vp_updL (M.2 k) i.toNatClampNeg v)))) = wlK G (wL M k i v) := by
  match k, h with
  | 0, h => exact absurd h (by decide)
  | 1, h => exact absurd h (by decide)
  | k + 2, h => exact absurd h (by simp [llenK])
/-! the machine's rows over the world wlK: one list of cells, cell k at the address G.1 k -/
def zIK (G : zG) : Prop := ∀ i j : Nat, i < 2 → j < 2 → G.1 i = G.1 j → i = j
def zAK (G : zG) (sz : Nat) : Nat → Prop := fun q => (∃ k : Nat, k < 2 ∧ q = G.1 k) ∨ sz ≤ q
theorem wlDK {G : zG} (hI : zIK G) (M : Mem) (sz : Nat) : va_D (zAK G sz) (wlK G M) := by
  refine ⟨fun i j p q hi hj e => ?_, fun k q hk => ?_⟩
  · obtain ⟨a1, a2⟩ := wlAK G M i p hi
    obtain ⟨b1, b2⟩ := wlAK G M j q hj
    exact hI i j a2 b2 (by rw [← a1, ← b1]; exact e)
  · obtain ⟨a1, a2⟩ := wlAK G M k q hk
    exact Or.inl ⟨k, a2, a1⟩
def ZZK (G : zG) (s : State) (M : Mem) (H : Heap) (locs : List Loc) : Prop := zIK G ∧ zK G s ∧ va_P G.2.2 zcl (wlK G M) H ∧ va_S (zAK G s.heap.size) s.heap H locs
def zQK (G : zG) (sz : Nat) (res : Option Value) (M : Mem) : Array Value → State → Outcome → State → Prop := fun _ st oc t => oc = .returned res ∧ va_P G.2.2 zcl (wlK G M) t.heap ∧ va_F (zAK G sz) st t
def zPK (G : zG) (sz : Nat) (av : List Value) (M : Mem) : Array Value → State → Prop := va_Pc av (fun U => U.heap.size = sz ∧ zIK G ∧ zK G U ∧ va_P G.2.2 zcl (wlK G M) U.heap)
def MetZK (l : Launch) (G : zG) (y : MethodName) (ws : List Cond) (rm : Room) (av : List Value) (M : Mem) (res : Option Value) (M2 : Mem) : Prop :=
  ∀ sz : Nat, Met l y ws rm (zPK G sz av M) (zQK G sz res M2) 0 0 (zAK G sz)
def zFK (p : Program) (R : Room) (s : State) (m : MethodId) (args : Array Value) (below : List Frame) (meth : Method) (c : Code) (Q : State → Prop) (G : zG) (cc : ByteArray) (maxL : Nat) (ret : Option FieldType) (own : String) (rm : Room) (res : Option Value) (M2 : Mem) : Prop :=
  p.tables.exec = Jvm.exec ∧ c.code = cc ∧ c.maxLocals = maxL ∧ meth.sig.returnType = ret ∧ (∀ w ∈ zws, w.before args s = true) ∧ s.vm.findClass own = some m.cls ∧ meth.locks = false ∧ R = rm ∧ Q = MQ below (zQK G s.heap.size res M2) args s 0 0 (zAK G s.heap.size)
theorem z_ofWK {l : Launch} {G : zG} {y : MethodName} {cc : ByteArray} {maxL : Nat} {ret : Option FieldType} {rm : Room} {av : List Value} {M M2 : Mem} {res : Option Value} {lv : List (Nat × Value)} (hy : plainName y.cls = true) (hn : (lg_sl av).length ≤ maxL) (hlv : lv_args 0 av = lv)
    (body : ∀ (p : Program) (e : Env) (R : Room) (s : State) (m : MethodId) (args : Array Value) (below : List Frame) (meth : Method) (c : Code) (Q : State → Prop) (ls : Array Slot), zFK p R s m args below meth c Q G cc maxL ret y.cls rm res M2 → lv_has ls maxL lv → ZZK G s M s.heap [] → W p l e R s m args below meth c s.heap [] 0 0 Q (F0 m 0 ls [])) :
    MetZK l G y (Cond.code y cc maxL ret :: zws) rm av M res M2 := by
  intro sz
  refine Met.ofW (cc := cc) (maxL := maxL) (ret := ret) hy rfl ?_
  intro p e s m args below meth c s₁ B hml hv
  obtain ⟨rfl, hsz, hI, hK, hP⟩ := hv
  subst hsz
  have hts := atoms_spec (ws := Cond.code y cc maxL ret :: zws) B.pre
  have hl := lv_entry av (n := maxL) hn
  rw [lg_entry_eq]
  generalize (lg_sl av ++ List.replicate (maxL - (lg_sl av).length) Slot.unset).toArray = ls at hl ⊢
  exact body p e _ s m av.toArray below meth c _ ls ⟨B.exec, B.bytes, hml, B.returns, fun w hw => hts w (List.mem_cons_of_mem _ hw), findClass_of_methodNamed B.named, B.notSynchronized, rfl, rfl⟩ (by rw [← hlv]; exact hl) ⟨hI, hK, hP, va_S.rf⟩
section ZRK
variable {p : Program} {l : Launch} {e : Env} {R : Room} {s : State} {m : MethodId} {args : Array Value} {below : List Frame} {meth : Method} {c : Code} {H : Heap} {locs : List Loc} {cells slots : Nat} {Q : State → Prop}
variable {cc : ByteArray} {pc : Nat} {ls : Array Slot} {rest : List Value} {G : zG} {M : Mem} {k : Nat} {i : Int32}
theorem z_ialoadK (hx0 : p.tables.exec = Jvm.exec) (hb : c.code = cc) (hZ : ZZK G s M H locs) (hi : inb i (alenK k) = true) (hdg : decode cc pc = .ok (.iaload, 1)) (kk : W p l e R s m args below meth c H locs cells slots Q (F0 m (pc + 1) ls (.int (M.1 k i.toNatClampNeg) :: rest))) : W p l e R s m args below meth c H locs cells slots Q (F0 m pc ls (.int i :: .ref (G.1 k) :: rest)) :=
  va_iald hx0 hb hZ.2.1.1 hZ.2.2.1 k 0 (wl_iK G M k (inb_pos hi)) rfl (inb_in hi) hdg kk
theorem z_iastoreK {v : Int32} (hx0 : p.tables.exec = Jvm.exec) (hb : c.code = cc) (hZ : ZZK G s M H locs) (hi : inb i (alenK k) = true) (hdg : decode cc pc = .ok (.iastore, 1)) (kk : ∀ (H1 : Heap) (locs1 : List Loc), ZZK G s (wI M k i v) H1 locs1 → W p l e R s m args below meth c H1 locs1 cells slots Q (F0 m (pc + 1) ls rest)) : W p l e R s m args below meth c H locs cells slots Q (F0 m pc ls (.int v :: .int i :: .ref (G.1 k) :: rest)) :=
  va_iast hx0 hb hZ.2.1.1 hZ.2.2.1 (wlDK hZ.1 M s.heap.size) hZ.2.2.2 k 0 (wl_iK G M k (inb_pos hi)) rfl (inb_in hi) hdg (fun H1 locs1 hP _ hS => kk H1 locs1 ⟨hZ.1, hZ.2.1, by rw [← wl_siK G M k i v (inb_pos hi)]; exact hP, hS⟩)
theorem z_baloadK (hx0 : p.tables.exec = Jvm.exec) (hb : c.code = cc) (hZ : ZZK G s M H locs) (hi : inb i (blenK k) = true) (hdg : decode cc pc = .ok (.baload, 1)) (kk : W p l e R s m args below meth c H locs cells slots Q (F0 m (pc + 1) ls (.int (M.1 k i.toNatClampNeg) :: rest))) : W p l e R s m args below meth c H locs cells slots Q (F0 m pc ls (.int i :: .ref (G.1 k) :: rest)) :=
  va_zald hx0 hb hZ.2.1.1 hZ.2.2.1 k 2 (wl_bK G M k (inb_pos hi)) rfl (inb_in hi) hdg kk
theorem z_bastoreK {v : Int32} (hx0 : p.tables.exec = Jvm.exec) (hb : c.code = cc) (hZ : ZZK G s M H locs) (hi : inb i (blenK k) = true) (hdg : decode cc pc = .ok (.bastore, 1)) (kk : ∀ (H1 : Heap) (locs1 : List Loc), ZZK G s (wI M k i (vp_nar .boolean v)) H1 locs1 → W p l e R s m args below meth c H1 locs1 cells slots Q (F0 m (pc + 1) ls rest)) : W p l e R s m args below meth c H locs cells slots Q (F0 m pc ls (.int v :: .int i :: .ref (G.1 k) :: rest)) :=
  va_zast hx0 hb hZ.2.1.1 hZ.2.2.1 (wlDK hZ.1 M s.heap.size) hZ.2.2.2 k 2 (wl_bK G M k (inb_pos hi)) rfl (inb_in hi) hdg (fun H1 locs1 hP _ hS => kk H1 locs1 ⟨hZ.1, hZ.2.1, by rw [← wl_sbK G M k i _ (inb_pos hi)]; exact hP, hS⟩)
theorem z_laloadK (hx0 : p.tables.exec = Jvm.exec) (hb : c.code = cc) (hZ : ZZK G s M H locs) (hi : inb i (llenK k) = true) (hdg : decode cc pc = .ok (.laload, 1)) (kk : W p l e R s m args below meth c H locs cells slots Q (F0 m (pc + 1) ls (.long (M.2 k i.toNatClampNeg) :: rest))) : W p l e R s m args below meth c H locs cells slots Q (F0 m pc ls (.int i :: .ref (G.1 k) :: rest)) :=
  va_lald hx0 hb hZ.2.1.1 hZ.2.2.1 k 1 (wl_lK G M k (inb_pos hi)) rfl (inb_in hi) hdg kk
theorem z_lastoreK {v : Int64} (hx0 : p.tables.exec = Jvm.exec) (hb : c.code = cc) (hZ : ZZK G s M H locs) (hi : inb i (llenK k) = true) (hdg : decode cc pc = .ok (.lastore, 1)) (kk : ∀ (H1 : Heap) (locs1 : List Loc), ZZK G s (wL M k i v) H1 locs1 → W p l e R s m args below meth c H1 locs1 cells slots Q (F0 m (pc + 1) ls rest)) : W p l e R s m args below meth c H locs cells slots Q (F0 m pc ls (.long v :: .int i :: .ref (G.1 k) :: rest)) :=
  va_last hx0 hb hZ.2.1.1 hZ.2.2.1 (wlDK hZ.1 M s.heap.size) hZ.2.2.2 k 1 (wl_lK G M k (inb_pos hi)) rfl (inb_in hi) hdg (fun H1 locs1 hP _ hS => kk H1 locs1 ⟨hZ.1, hZ.2.1, by rw [← wl_slK G M k i v (inb_pos hi)]; exact hP, hS⟩)
theorem z_alenK (hx0 : p.tables.exec = Jvm.exec) (hb : c.code = cc) (hZ : ZZK G s M H locs) (hi : 0 < alenK k) (hdg : decode cc pc = .ok (.arraylength, 1)) (kk : W p l e R s m args below meth c H locs cells slots Q (F0 m (pc + 1) ls (.int (nI (alenK k)) :: rest))) : W p l e R s m args below meth c H locs cells slots Q (F0 m pc ls (.ref (G.1 k) :: rest)) :=
  va_alen hx0 hb hZ.2.1.1 hZ.2.2.1 k 0 (wl_iK G M k hi) rfl rfl hdg kk
theorem z_iretK {cc : ByteArray} {M2 : Mem} {v : Int32} (hx0 : p.tables.exec = Jvm.exec) (hb : c.code = cc) (hr : meth.sig.returnType = some .int) (hZ : ZZK G s M2 H locs) (hlocks : meth.locks = false) (hQ : Q = MQ below (zQK G s.heap.size (some (.int v)) M2) args s 0 0 (zAK G s.heap.size)) (hdg : decode cc pc = .ok (.ireturn, 1)) : W p l e R s m args below meth c H locs 0 0 Q (F0 m pc ls [.int v]) := by
  subst hQ
  exact W.iret (v := v) hx0 hb hr (fun t ht _ => ⟨rfl, by rw [ht]; exact hZ.2.2.1, hZ.2.2.2.F ht⟩) hZ.2.2.2.2.2 hdg hlocks
theorem z_zretK {cc : ByteArray} {M2 : Mem} {v : Int32} (hx0 : p.tables.exec = Jvm.exec) (hb : c.code = cc) (hr : meth.sig.returnType = some .boolean) (hZ : ZZK G s M2 H locs) (hlocks : meth.locks = false) (hQ : Q = MQ below (zQK G s.heap.size (some (.int v)) M2) args s 0 0 (zAK G s.heap.size)) (hn : narrow .boolean (.int v) = .int v) (hdg : decode cc pc = .ok (.ireturn, 1)) : W p l e R s m args below meth c H locs 0 0 Q (F0 m pc ls [.int v]) := by
  subst hQ
  exact W.zret (v := v) hx0 hb hr hn (fun t ht _ => ⟨rfl, by rw [ht]; exact hZ.2.2.1, hZ.2.2.2.F ht⟩) hZ.2.2.2.2.2 hdg hlocks
theorem z_lretK {cc : ByteArray} {M2 : Mem} {v : Int64} (hx0 : p.tables.exec = Jvm.exec) (hb : c.code = cc) (hr : meth.sig.returnType = some .long) (hZ : ZZK G s M2 H locs) (hlocks : meth.locks = false) (hQ : Q = MQ below (zQK G s.heap.size (some (.long v)) M2) args s 0 0 (zAK G s.heap.size)) (hdg : decode cc pc = .ok (.lreturn, 1)) : W p l e R s m args below meth c H locs 0 0 Q (F0 m pc ls [.long v]) := by
  subst hQ
  exact W.lret (v := v) hx0 hb hr (fun t ht _ => ⟨rfl, by rw [ht]; exact hZ.2.2.1, hZ.2.2.2.F ht⟩) hZ.2.2.2.2.2 hdg hlocks
theorem z_aretK {cc : ByteArray} {M2 : Mem} {a : Nat} (hx0 : p.tables.exec = Jvm.exec) (hb : c.code = cc) (hr : meth.sig.returnType = some (.array .int)) (hZ : ZZK G s M2 H locs) (hlocks : meth.locks = false) (hQ : Q = MQ below (zQK G s.heap.size (some (.ref a)) M2) args s 0 0 (zAK G s.heap.size)) (hdg : decode cc pc = .ok (.areturn, 1)) : W p l e R s m args below meth c H locs 0 0 Q (F0 m pc ls [.ref a]) := by
  subst hQ
  exact W.aret (v := .ref a) hx0 hb hr (Or.inr ⟨_, rfl⟩) (Or.inr ⟨_, rfl⟩) (fun t ht _ => ⟨rfl, by rw [ht]; exact hZ.2.2.1, hZ.2.2.2.F ht⟩) hZ.2.2.2.2.2 hdg hlocks
theorem z_vretK {cc : ByteArray} {M2 : Mem} (hx0 : p.tables.exec = Jvm.exec) (hb : c.code = cc) (hr : meth.sig.returnType = none) (hZ : ZZK G s M2 H locs) (hlocks : meth.locks = false) (hQ : Q = MQ below (zQK G s.heap.size none M2) args s 0 0 (zAK G s.heap.size)) (hdg : decode cc pc = .ok (.return_, 1)) : W p l e R s m args below meth c H locs 0 0 Q (F0 m pc ls []) := by
  subst hQ
  exact W.vret hx0 hb hr (fun t ht _ => ⟨rfl, by rw [ht]; exact hZ.2.2.1, hZ.2.2.2.F ht⟩) hZ.2.2.2.2.2 hdg hlocks
theorem z_runK {st0 : List Value} {res : Option Value} {M2 : Mem} {a : Array Value} (hr : va_Run p l e R s m args below meth c H locs cells slots 0 0 (F0 m pc ls st0) rest (zQK G H.size res M2 a) (zAK G H.size)) (hZ : ZZK G s M H locs)
    (kk : ∀ (H1 : Heap) (locs1 : List Loc), ZZK G s M2 H1 locs1 → W p l e R s m args below meth c H1 locs1 cells slots Q (F0 m (pc + 3) ls (res.toList ++ rest))) : W p l e R s m args below meth c H locs cells slots Q (F0 m pc ls st0) := by
  intro T hT X
  obtain ⟨v, st₀, t, T', L, h0, X', hL, e1, e2, ⟨hv, hP, hz, hk⟩, st⟩ := hr T hT X
  obtain rfl : v = res := by injection hv
  rw [h0] at hz hk
  obtain ⟨hI, hK0, hP0, hS⟩ := hZ
  have hA : ∀ q, zAK G H.size q → zAK G s.heap.size q := fun q h => h.elim Or.inl (fun h => Or.inr (Nat.le_trans hS.1 h))
  obtain ⟨t2, a1, b1⟩ := kk T'.heap (locs ++ L) ⟨hI, hK0, by rw [e1]; exact hP,
    ⟨Nat.le_trans hS.1 (by rw [e1]; exact hz), fun q h1 h2 => by rw [e1, hk q (Nat.lt_of_lt_of_le h1 hS.1) (fun z => h2 (hA q z))]; exact hS.2.1 q h1 h2, fun q hq => by
      rcases List.mem_append.mp hq with h | h
      · exact hS.2.2 q h
      · exact hA _ (hL q h)⟩⟩ T' rfl X'
  exact ⟨t2, st t2 a1, b1⟩
theorem zP_blindK {sz : Nat} {av : List Value} : FrameBlind (zPK G sz av M) := fun a U g mk q => by
  obtain ⟨q0, q1, qI, qK, qP⟩ := q
  exact ⟨q0, q1, qI, zK_same (u := U) (U := U.calling g mk a) rfl qK, qP⟩
theorem zP_atK {av : List Value} (hZ : ZZK G s M H locs) : ∀ U : State, U.heap = H → s.WarmedH U.vm → zPK G H.size av M av.toArray U := fun U hU hW => ⟨rfl, by rw [hU], hZ.1, zK_warm hW hZ.2.1, by rw [hU]; exact hZ.2.2.1⟩
end ZRK

section ZFK
variable {p : Program} {l : Launch} {e : Env} {R : Room} {s : State} {m : MethodId} {args : Array Value} {below : List Frame} {meth : Method} {c : Code} {H : Heap} {locs : List Loc} {cells slots : Nat} {Q : State → Prop}
variable {cc : ByteArray} {pc nL : Nat} {ls : Array Slot} {rest : List Value} {G : zG} {M : Mem}
theorem fgK_Gr_columns (hx0 : p.tables.exec = Jvm.exec) (hb : c.code = cc) (hts : ∀ w ∈ zws, w.before args s = true) (hown : s.vm.findClass R_Gr = some m.cls) (hZ : ZZK G s M H locs) (hdg : decode cc pc = .ok (.getfield 15, 3)) (kk : W p l e R s m args below meth c H locs cells slots Q (F0 m (pc + 3) ls (.int (M.1 0 0) :: rest))) : W p l e R s m args below meth c H locs cells slots Q (F0 m pc ls (.ref (G.1 0) :: rest)) :=
  va_get (D := G.2.2) (ci := 2) (v := .int (M.1 0 0)) (C := R_Gr) (T := F_Gr) (N := 2) hx0 hb hts in_Gr hown hZ.2.1.1 hZ.2.2.1 0 rfl rfl 0 (by decide) (hts _ wf_Gr_15) (fun _ h9 => h9) rfl hdg kk
theorem fgK_Gr_groupOf (hx0 : p.tables.exec = Jvm.exec) (hb : c.code = cc) (hts : ∀ w ∈ zws, w.before args s = true) (hown : s.vm.findClass R_Gr = some m.cls) (hZ : ZZK G s M H locs) (hdg : decode cc pc = .ok (.getfield 9, 3)) (kk : W p l e R s m args below meth c H locs cells slots Q (F0 m (pc + 3) ls (.ref (G.1 1) :: rest))) : W p l e R s m args below meth c H locs cells slots Q (F0 m pc ls (.ref (G.1 0) :: rest)) :=
  va_get (D := G.2.2) (ci := 2) (v := .ref (G.1 1)) (C := R_Gr) (T := F_Gr) (N := 2) hx0 hb hts in_Gr hown hZ.2.1.1 hZ.2.2.1 0 rfl rfl 1 (by decide) (hts _ wf_Gr_9) (fun _ h9 => h9) rfl hdg kk
end ZFK
def pK_Gr_standAlone_L2 (x1_2 : Int32) (M_2 : Mem) : Option ((Int32 × Mem) ⊕ (Int32 × Mem)) :=
  if (6 : Int32) ≤ x1_2 then
    some (.inr (x1_2, M_2))
  else
    chk (inb x1_2 6) <|
    nm (wI M_2 1 x1_2 x1_2) fun m2_3 =>
    some (.inl ((x1_2 + (1 : Int32)), m2_3))
def pK_Gr_standAlone  (M : Mem) : Option (Mem) :=
  bnd (itr zfu (fun s => pK_Gr_standAlone_L2 s.1 s.2) ((0 : Int32), M)) fun q1 =>
  some q1.2
abbrev rmK_Gr_standAlone : Room := ({ frames := 0, cells := 0, slots := 0, locals := 0 } : Room)
set_option maxHeartbeats 4000000 in
set_option maxRecDepth 100000 in
theorem cK_Gr_standAlone (l : Launch) (G : zG)  (M : Mem) (r : Mem) (h : pK_Gr_standAlone  M = some r) : MetZK l G y_Gr_standAlone (Cond.code y_Gr_standAlone b_Gr_standAlone 2 none :: zws) rmK_Gr_standAlone [.ref (G.1 0)] M none r := by
  unfold pK_Gr_standAlone at h
  refine z_ofWK (lv := [(0, .ref (G.1 0))]) (by decide) (Nat.le_of_ble_eq_true rfl) rfl (fun p e R s m args below meth c Q ls F hl hZ => ?_)
  obtain ⟨hx0, hb, hml, hr, hts, hown, hlocks, rfl, hQ⟩ := F
  refine lv_iconst (v := (0 : Int32)) hx0 hb d_Gr_standAlone_0 (by decide) ?_
  refine lv_istore_n (lv' := [(1, .int (0 : Int32)), (0, .ref (G.1 0))]) hx0 hb d_Gr_standAlone_1 rfl hl (by decide) rfl (fun ls hl => ?_)
  obtain ⟨q1, hq2, h⟩ := bnd_some h
  refine W_itr (At := fun (s0 : Int32 × Mem) => ∀ (H : Heap) (locs : List Loc) (ls : Array Slot), ZZK G s s0.2 H locs → lv_has ls 2 [(1, .int s0.1), (0, .ref (G.1 0))] → W p l e rmK_Gr_standAlone s m args below meth c H locs 0 0 Q (F0 m 2 ls [])) (Ex := fun (q0 : Int32 × Mem) => ∀ (H : Heap) (locs : List Loc) (ls : Array Slot), ZZK G s q0.2 H locs → lv_has ls 2 [] → W p l e rmK_Gr_standAlone s m args below meth c H locs 0 0 Q (F0 m 21 ls [])) (fun s0 x h hx => ?_) _ _ q1 hq2 (fun H locs ls hZ hl => ?_) _ _ _ hZ (lv_sub hl [0, 1] rfl)
  · obtain ⟨x1_2, M_2⟩ := s0
    replace h : pK_Gr_standAlone_L2 x1_2 M_2 = some x := h
    unfold pK_Gr_standAlone_L2 at h
    intro H locs ls hZ hl
    replace hZ : ZZK G s M_2 H locs := hZ
    replace hl : lv_has ls 2 [(1, .int x1_2), (0, .ref (G.1 0))] := hl
    refine lv_iload_n hx0 hb d_Gr_standAlone_2 rfl (lv_at hl 0 rfl) ?_
    refine lv_bipush (v := (6 : Int32)) hx0 hb d_Gr_standAlone_3 (by decide) ?_
    refine lv_icmp_ge (tgt := 21) hx0 hb d_Gr_standAlone_5 (by decide) (fun c2_1 => ?_) (fun c2_1 => ?_)
    · replace h := (if_pos c2_1).symm.trans h
      obtain rfl := Option.some.inj h
      exact hx _ _ _ hZ (lv_sub hl [] rfl)
    · replace h := (if_neg c2_1).symm.trans h
      refine lv_aload_n hx0 hb d_Gr_standAlone_8 rfl (lv_at hl 1 rfl) ?_
      refine fgK_Gr_groupOf hx0 hb hts hown hZ d_Gr_standAlone_9 ?_
      refine lv_iload_n hx0 hb d_Gr_standAlone_12 rfl (lv_at hl 0 rfl) ?_
      refine lv_iload_n hx0 hb d_Gr_standAlone_13 rfl (lv_at hl 0 rfl) ?_
      obtain ⟨hi2_2, h⟩ := chk_some h
      refine z_iastoreK (k := 1) hx0 hb hZ hi2_2 d_Gr_standAlone_14 (fun H locs hZ => ?_)
      obtain ⟨m2_3, em2_3, h⟩ := nm_some h
      rw [em2_3] at hZ
      refine lv_iinc (v := (x1_2 + (1 : Int32))) (lv' := [(1, .int (x1_2 + (1 : Int32))), (0, .ref (G.1 0))]) hx0 hb d_Gr_standAlone_15 hl (k := 0) rfl rfl (by decide) rfl (fun ls hl => ?_)
      refine lv_goto (tgt := 2) hx0 hb d_Gr_standAlone_18 (by decide) ?_
      obtain rfl := Option.some.inj h
      exact hx _ _ _ hZ (lv_sub hl [0, 1] rfl)
  · replace hZ : ZZK G s q1.2 H locs := hZ
    replace hl : lv_has ls 2 [] := hl
    obtain rfl := Option.some.inj h
    exact z_vretK hx0 hb hr hZ hlocks hQ d_Gr_standAlone_21
theorem wlEK (G : zG) (M : Mem) (k : Nat) (hk : k < 2) : ∃ e0 : va_E, (wlK G M)[k]? = some (G.1 k, e0) := by
  match k, hk with
  | 0, _ => exact ⟨_, rfl⟩
  | 1, _ => exact ⟨_, rfl⟩
  | k + 2, hk => exact absurd hk (by omega)
theorem wlET (G : zG) (M : Mem) (k : Nat) (hk : k < 18) : ∃ e0 : va_E, (wlT G M)[k]? = some (G.1 k, e0) := by
  match k, hk with
  | 0, _ => exact ⟨_, rfl⟩
  | 1, _ => exact ⟨_, rfl⟩
  | 2, _ => exact ⟨_, rfl⟩
  | 3, _ => exact ⟨_, rfl⟩
  | 4, _ => exact ⟨_, rfl⟩
  | 5, _ => exact ⟨_, rfl⟩
  | 6, _ => exact ⟨_, rfl⟩
  | 7, _ => exact ⟨_, rfl⟩
  | 8, _ => exact ⟨_, rfl⟩
  | 9, _ => exact ⟨_, rfl⟩
  | 10, _ => exact ⟨_, rfl⟩
  | 11, _ => exact ⟨_, rfl⟩
  | 12, _ => exact ⟨_, rfl⟩
  | 13, _ => exact ⟨_, rfl⟩
  | 14, _ => exact ⟨_, rfl⟩
  | 15, _ => exact ⟨_, rfl⟩
  | 16, _ => exact ⟨_, rfl⟩
  | 17, _ => exact ⟨_, rfl⟩
  | k + 18, hk => exact absurd hk (by omega)
theorem zn_runK {p : Program} {l : Launch} {e : Env} {R : Room} {s : State} {m : MethodId} {args : Array Value} {below : List Frame} {meth : Method} {c : Code} {H : Heap} {locs : List Loc} {cells slots : Nat} {Q : State → Prop} {pc : Nat} {ls : Array Slot} {rest st0 : List Value} {G Gk : zG} {h0 : Nat} {M M2 : Mem} {res : Option Value} {a : Array Value}
    (hr : va_Run p l e R s m args below meth c H locs cells slots 0 0 (F0 m pc ls st0) rest (zQK Gk H.size res M2 a) (zAK Gk H.size)) (hG : Gk.2 = G.2) (hI : zIK Gk) (hZ : ZN G h0 s (wlK Gk M) H locs)
    (kk : ∀ (H1 : Heap) (locs1 : List Loc), ZN G h0 s (wlK Gk M2) H1 locs1 → W p l e R s m args below meth c H1 locs1 cells slots Q (F0 m (pc + 3) ls (res.toList ++ rest))) : W p l e R s m args below meth c H locs cells slots Q (F0 m pc ls st0) := by
  intro T hT X
  obtain ⟨v, st₀, t, T', L, h0', X', hL, e1, e2, ⟨hv, hP1, hz, hk⟩, st⟩ := hr T hT X
  obtain rfl : v = res := by injection hv
  rw [h0'] at hz hk
  rw [hG] at hP1
  obtain ⟨hK, hP, hD, hS⟩ := hZ
  have hAk : ∀ k : Nat, k < 2 → zAo h0 s.heap.size (Gk.1 k) := fun k hk => by
    obtain ⟨e0, he⟩ := wlEK Gk M k hk
    exact hD.2 k _ he
  have hA : ∀ x, zAK Gk H.size x → zAo h0 s.heap.size x := fun x h => by
    rcases h with ⟨k, hk, rfl⟩ | h
    · exact hAk k hk
    · exact Or.inr (Nat.le_trans hS.1 h)
  obtain ⟨t2, a1, b1⟩ := kk T'.heap (locs ++ L) ⟨hK, by rw [e1]; exact hP1, (wlDK hI M2 0).1 |> fun h => ⟨h, fun k q hq => by
      obtain ⟨b1, b2⟩ := wlAK Gk M2 k q hq
      rw [b1]; exact hAk k b2⟩,
    ⟨Nat.le_trans hS.1 (by rw [e1]; exact hz), fun x h1 h2 => by rw [e1, hk x (Nat.lt_of_lt_of_le h1 hS.1) (fun z => h2 (hA x z))]; exact hS.2.1 x h1 h2, fun x hx => by
      rcases List.mem_append.mp hx with h | h
      · exact hS.2.2 x h
      · exact hA _ (hL x h)⟩⟩ T' rfl X'
  exact ⟨t2, st t2 a1, b1⟩

theorem zn_runT {p : Program} {l : Launch} {e : Env} {R : Room} {s : State} {m : MethodId} {args : Array Value} {below : List Frame} {meth : Method} {c : Code} {H : Heap} {locs : List Loc} {cells slots : Nat} {Q : State → Prop} {pc : Nat} {ls : Array Slot} {rest st0 : List Value} {G Gk : zG} {h0 : Nat} {M M2 : Mem} {res : Option Value} {a : Array Value}
    (hr : va_Run p l e R s m args below meth c H locs cells slots 0 0 (F0 m pc ls st0) rest (zQT Gk H.size res M2 a) (zAT Gk H.size)) (hG : Gk.2 = G.2) (hI : zIT Gk) (hZ : ZN G h0 s (wlT Gk M) H locs)
    (kk : ∀ (H1 : Heap) (locs1 : List Loc), ZN G h0 s (wlT Gk M2) H1 locs1 → W p l e R s m args below meth c H1 locs1 cells slots Q (F0 m (pc + 3) ls (res.toList ++ rest))) : W p l e R s m args below meth c H locs cells slots Q (F0 m pc ls st0) := by
  intro T hT X
  obtain ⟨v, st₀, t, T', L, h0', X', hL, e1, e2, ⟨hv, hP1, hz, hk⟩, st⟩ := hr T hT X
  obtain rfl : v = res := by injection hv
  rw [h0'] at hz hk
  rw [hG] at hP1
  obtain ⟨hK, hP, hD, hS⟩ := hZ
  have hAk : ∀ k : Nat, k < 18 → zAo h0 s.heap.size (Gk.1 k) := fun k hk => by
    obtain ⟨e0, he⟩ := wlET Gk M k hk
    exact hD.2 k _ he
  have hA : ∀ x, zAT Gk H.size x → zAo h0 s.heap.size x := fun x h => by
    rcases h with ⟨k, hk, rfl⟩ | h
    · exact hAk k hk
    · exact Or.inr (Nat.le_trans hS.1 h)
  obtain ⟨t2, a1, b1⟩ := kk T'.heap (locs ++ L) ⟨hK, by rw [e1]; exact hP1, (wlDT hI M2 0).1 |> fun h => ⟨h, fun k q hq => by
      obtain ⟨b1, b2⟩ := wlAT Gk M2 k q hq
      rw [b1]; exact hAk k b2⟩,
    ⟨Nat.le_trans hS.1 (by rw [e1]; exact hz), fun x h1 h2 => by rw [e1, hk x (Nat.lt_of_lt_of_le h1 hS.1) (fun z => h2 (hA x z))]; exact hS.2.1 x h1 h2, fun x hx => by
      rcases List.mem_append.mp hx with h | h
      · exact hS.2.2 x h
      · exact hA _ (hL x h)⟩⟩ T' rfl X'
  exact ⟨t2, st t2 a1, b1⟩

def saM (M : Mem) : Mem := wI (wI (wI (wI (wI (wI M 1 0 0) 1 (0 + 1) (0 + 1)) 1 (0 + 1 + 1) (0 + 1 + 1)) 1 (0 + 1 + 1 + 1) (0 + 1 + 1 + 1)) 1 (0 + 1 + 1 + 1 + 1) (0 + 1 + 1 + 1 + 1)) 1 (0 + 1 + 1 + 1 + 1 + 1) (0 + 1 + 1 + 1 + 1 + 1)
theorem sa_run (M : Mem) : pK_Gr_standAlone M = some (saM M) := rfl
