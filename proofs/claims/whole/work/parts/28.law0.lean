theorem wc_La_cell : Cond.code y_La_cell b_La_cell 2 (some .int) ∈ zws := zmem 454 (by decide +kernel) (by decide +kernel)
theorem wst_La_cell : Cond.static y_La_cell ∈ zws := zmem 453 (by decide +kernel) (by decide +kernel)
abbrev rm_La_cell : Room := { frames := 0, cells := 0, slots := 0, locals := 0 }
def zcv (L : Nat) (xs : Nat → Int32) : Int32 := if L = 0 then 0 else xs 0
def zPcell (b L sz : Nat) (xs : Nat → Int32) : Array Value → State → Prop := va_Pc [.ref b, .int 0] (fun U => U.heap.size = sz ∧ b < sz ∧ va_X b L xs U U.heap)
def zQcell (r : Int32) : Array Value → State → Outcome → State → Prop := fun _ st oc t => oc = .returned (some (.int r)) ∧ t.heap = st.heap
theorem zcv_0 {L : Nat} {xs : Nat → Int32} (hL : L ≤ 2561) (h : Int32.ofNat L ≤ (0 : Int32)) : zcv L xs = 0 := by
  have : L = 0 := by
    rw [Int32.le_iff_toInt_le, show (Int32.ofNat L).toInt = (L : Int) from nI_toInt (by omega)] at h
    have h : (L : Int) ≤ 0 := h
    omega
  rw [zcv, if_pos this]
theorem zcv_1 {L : Nat} {xs : Nat → Int32} (hL : L ≤ 2561) (h : ¬ Int32.ofNat L ≤ (0 : Int32)) : 0 < L ∧ zcv L xs = xs 0 := by
  have : ¬ L = 0 := fun e => h (by subst e; decide)
  exact ⟨by omega, by rw [zcv, if_neg this]⟩
theorem c_La_cell (l : Launch) (b L sz : Nat) (xs : Nat → Int32) (hL : L ≤ 2561) : Met l y_La_cell (Cond.code y_La_cell b_La_cell 2 (some .int) :: zws) rm_La_cell (zPcell b L sz xs) (zQcell (zcv L xs)) 0 0 (fun _ => False) := by
  refine Met.ofW (cc := b_La_cell) (maxL := 2) (ret := some .int) (by decide) rfl ?_
  intro p e s m args below meth c s₁ B hml hv
  obtain ⟨rfl, hsz, hbl, hX⟩ := hv
  subst hsz
  have hl := lv_entry [.ref b, .int 0] (n := 2) (Nat.le_of_ble_eq_true rfl)
  rw [lg_entry_eq]
  generalize (lg_sl [.ref b, .int 0] ++ List.replicate (2 - (lg_sl [.ref b, .int 0]).length) Slot.unset).toArray = ls at hl ⊢
  have hx0 := B.exec
  have hb := B.bytes
  have hl : lv_has ls 2 [(0, .ref b), (1, .int 0)] := hl
  have hS : va_S (fun _ => False) s.heap s.heap [] := va_S.rf
  refine lv_iload_n hx0 hb d_La_cell_0 rfl (lv_at hl 1 rfl) ?_
  refine lv_aload_n hx0 hb d_La_cell_1 rfl (lv_at hl 0 rfl) ?_
  refine va_slen hx0 hb hX hbl (fun h => h) hS d_La_cell_2 ?_
  refine lv_icmp_ge (tgt := 12) hx0 hb d_La_cell_3 (by decide) (fun c1 => ?_) (fun c1 => ?_)
  · refine lv_iconst (v := (0 : Int32)) hx0 hb d_La_cell_12 (by decide) ?_
    rw [zcv_0 hL c1]
    exact W.iret (v := (0 : Int32)) hx0 hb B.returns (fun t ht _ => ⟨rfl, ht⟩) (fun q h => by cases h) d_La_cell_13 B.notSynchronized
  · obtain ⟨h0, h1⟩ := zcv_1 (xs := xs) hL c1
    refine lv_aload_n hx0 hb d_La_cell_6 rfl (lv_at hl 0 rfl) ?_
    refine lv_iload_n hx0 hb d_La_cell_7 rfl (lv_at hl 1 rfl) ?_
    refine va_sld hx0 hb hX hbl (fun h => h) hS (i := (0 : Int32)) (vp_in_nI (n := 0) h0 (by omega)) d_La_cell_8 ?_
    refine lv_goto (tgt := 13) hx0 hb d_La_cell_9 (by decide) ?_
    rw [h1]
    exact W.iret (v := xs 0) hx0 hb B.returns (fun t ht _ => ⟨rfl, ht⟩) (fun q h => by cases h) d_La_cell_13 B.notSynchronized
section ZCL
variable {p : Program} {l : Launch} {e : Env} {R : Room} {s : State} {m : MethodId} {args : Array Value} {below : List Frame} {meth : Method} {c : Code} {H : Heap} {locs : List Loc} {cells slots : Nat} {Q : State → Prop}
variable {cc : ByteArray} {pc nL : Nat} {ls : Array Slot} {rest : List Value} {G : zG} {h0 : Nat} {ws : va_W}
theorem zn_cell {b L : Nat} {xs : Nat → Int32} {lv : List (Nat × Value)} (hx0 : p.tables.exec = Jvm.exec) (hb : c.code = cc) (hml : c.maxLocals = nL) (hts : ∀ w ∈ zws, w.before args s = true) (hown : s.vm.findClass R_La = some m.cls) (hL : L ≤ 2561) (hX : va_X b L xs s s.heap) (hbl : b < s.heap.size) (hh : s.heap.size ≤ h0) (hZ : ZN G h0 s ws H locs) (hl : lv_has ls nL lv) (hR : 1 ≤ R.frames ∧ 32 ≤ R.locals) (hRc : cells + 0 ≤ R.cells ∧ slots + 0 ≤ R.slots) (hW : (rest.map fun v => v.category).sum ≤ 8) (hdg : decode cc pc = .ok (.invokestatic 32, 3))
    (kk : ∀ (H1 : Heap) (locs1 : List Loc), ZN G h0 s ws H1 locs1 → W p l e R s m args below meth c H1 locs1 cells slots Q (F0 m (pc + 3) ls (.int (zcv L xs) :: rest))) : W p l e R s m args below meth c H locs cells slots Q (F0 m pc ls (.int 0 :: .ref b :: rest)) := by
  have hbq : H[b]? = s.heap[b]? := hZ.2.2.2.2.1 b hbl (fun h => by
    rcases h with h | h
    · omega
    · omega)
  have hr : va_Run p l e R s m args below meth c H locs cells slots 0 0 (F0 m pc ls (.int 0 :: .ref b :: rest)) rest (zQcell (zcv L xs) [Value.ref b, Value.int 0].toArray) (fun _ => False) :=
    va_runS (n := 2) (As := [.ref b, .int 0]) ⟨hx0, hb, hml, hown, hts⟩ (c_La_cell l b L H.size xs hL) ⟨zcB hts wc_La_cell wini_La wm_La_32 (by decide +kernel) rfl rfl ⟨hR.1, Nat.le_trans (Nat.le_of_ble_eq_true rfl) hR.2⟩, hts _ wst_La_cell⟩
      ⟨fun a U g mk q => by
        obtain ⟨q0, q1, q2, q3⟩ := q
        exact ⟨q0, q1, q2, va_X.moved (u := U) (U := U.calling g mk a) (Vm.Alike.refl U.vm) q3⟩, fun U hU hW => ⟨rfl, by rw [hU], Nat.lt_of_lt_of_le hbl hZ.2.2.2.1, by rw [hU]; exact va_X.moved hW.alike (hX.kept hbq)⟩⟩
      rfl rfl hl.1 rfl (lv_room hW) hdg hRc
  intro T hT X9
  obtain ⟨v, st₀, t, T', L', h0', X', hL', e1, e2, ⟨hv, hq⟩, st⟩ := hr T hT X9
  obtain rfl : v = some (.int (zcv L xs)) := by injection hv
  have hH : T'.heap = H := by rw [e1, hq, h0']
  have hLe : L' = [] := by
    cases L' with
    | nil => rfl
    | cons a t => exact absurd (hL' a List.mem_cons_self) (fun h => h)
  subst hLe
  obtain ⟨t2, a1, b1⟩ := kk T'.heap locs (by rw [hH]; exact hZ) T' rfl (by simpa using X')
  exact ⟨t2, st t2 a1, b1⟩
theorem nw_La_ES (hx0 : p.tables.exec = Jvm.exec) (hb : c.code = cc) (hts : ∀ w ∈ zws, w.before args s = true) (hown : s.vm.findClass R_La = some m.cls) (hZ : ZN G h0 s ws H locs) (hcells : cells + 1 ≤ R.cells) (hslots : slots + 6 ≤ R.slots) (hdg : decode cc pc = .ok (.new 8, 3)) (kk : ∀ (q : Nat) (H1 : Heap), ZN G h0 s (ws ++ [(q, .inr (6, [.int 0, .null, .null, .null, .null, .null]))]) H1 locs → W p l e R s m args below meth c H1 locs (cells + 1) (slots + 6) Q (F0 m (pc + 3) ls (.ref q :: rest))) : W p l e R s m args below meth c H locs cells slots Q (F0 m pc ls rest) :=
  va_new (ci := 6) (fs := [.int 0, .null, .null, .null, .null, .null]) (C := R_ES) (T := F_ES) (N := 6) hx0 hb hts in_ES t_ES t_ES_ok hown (hts _ wcl_La_8) (hts _ win_ES) (hts _ wini_ES) hZ.1.1.1 hZ.2.1 hZ.2.2.1 hZ.2.2.2 (fun q h => zAo_ge h) rfl (dfl_ES) hcells hslots hdg (fun q H1 hP hD hS => kk q H1 ⟨hZ.1, hP, hD, hS⟩)
theorem nw_La_Md (hx0 : p.tables.exec = Jvm.exec) (hb : c.code = cc) (hts : ∀ w ∈ zws, w.before args s = true) (hown : s.vm.findClass R_La = some m.cls) (hZ : ZN G h0 s ws H locs) (hcells : cells + 1 ≤ R.cells) (hslots : slots + 25 ≤ R.slots) (hdg : decode cc pc = .ok (.new 41, 3)) (kk : ∀ (q : Nat) (H1 : Heap), ZN G h0 s (ws ++ [(q, .inr (7, [.int 0, .int 0, .int 0, .null, .null, .null, .null, .null, .int 0, .null, .null, .null, .null, .int 0, .null, .null, .null, .int 0, .null, .null, .null, .null, .null, .int 0, .int 0]))]) H1 locs → W p l e R s m args below meth c H1 locs (cells + 1) (slots + 25) Q (F0 m (pc + 3) ls (.ref q :: rest))) : W p l e R s m args below meth c H locs cells slots Q (F0 m pc ls rest) :=
  va_new (ci := 7) (fs := [.int 0, .int 0, .int 0, .null, .null, .null, .null, .null, .int 0, .null, .null, .null, .null, .int 0, .null, .null, .null, .int 0, .null, .null, .null, .null, .null, .int 0, .int 0]) (C := R_Md) (T := F_Md) (N := 25) hx0 hb hts in_Md t_Md t_Md_ok hown (hts _ wcl_La_41) (hts _ win_Md) (hts _ wini_Md) hZ.1.1.1 hZ.2.1 hZ.2.2.1 hZ.2.2.2 (fun q h => zAo_ge h) rfl (dfl_Md) hcells hslots hdg (fun q H1 hP hD hS => kk q H1 ⟨hZ.1, hP, hD, hS⟩)
end ZCL
def esG (G : zG) (h0 : Nat) (q r1 r2 : Nat → Nat) : zG := (fun k => match k with | 0 => h0 | 12 => r1 0 | 13 => r1 1 | 14 => r1 2 | 15 => r1 3 | 16 => r1 4 | 27 => r2 0 | 28 => r2 1 | 29 => r2 2 | 30 => r2 3 | 31 => r2 4 | 32 => r2 5 | k => q k, G.2)
def initC (cN : Int32) : Mem := (fun k => match k with | 0 => (fun j => if j = 0 then cN else 0) | 17 => (fun j => if j = 0 then cN else 0) | 18 => saF | 24 => (fun j => if j = 0 then cN else if j = 9 then 1000000 else 0) | _ => (fun _ => 0), fun _ _ => 0)
theorem es_E (G : zG) (h0 : Nat) (cN : Int32) (q r1 r2 : Nat → Nat) (k : Nat) (h : k < 37) : ∃ e : va_E, (esW G h0 cN q r1 r2)[k]? = some ((esG G h0 q r1 r2).1 k, e) := by
  match k, h with
  | 0, _ => exact ⟨_, rfl⟩
  | 1, _ => exact ⟨_, rfl⟩
  | 2, _ => exact ⟨_, rfl⟩
  | 3, _ => exact ⟨_, rfl⟩
  | 4, _ => exact ⟨_, rfl⟩
  | 5, _ => exact ⟨_, rfl⟩
  | 6, _ => exact ⟨_, rfl⟩
  | 7, _ => exact ⟨_, rfl⟩
  | 8, _ => exact ⟨_, rfl⟩
  | 9, _ => exact ⟨_, rfl⟩
  | 10, _ => exact ⟨_, rfl⟩
  | 11, _ => exact ⟨_, rfl⟩
  | 12, _ => exact ⟨_, rfl⟩
  | 13, _ => exact ⟨_, rfl⟩
  | 14, _ => exact ⟨_, rfl⟩
  | 15, _ => exact ⟨_, rfl⟩
  | 16, _ => exact ⟨_, rfl⟩
  | 17, _ => exact ⟨_, rfl⟩
  | 18, _ => exact ⟨_, rfl⟩
  | 19, _ => exact ⟨_, rfl⟩
  | 20, _ => exact ⟨_, rfl⟩
  | 21, _ => exact ⟨_, rfl⟩
  | 22, _ => exact ⟨_, rfl⟩
  | 23, _ => exact ⟨_, rfl⟩
  | 24, _ => exact ⟨_, rfl⟩
  | 25, _ => exact ⟨_, rfl⟩
  | 26, _ => exact ⟨_, rfl⟩
  | 27, _ => exact ⟨_, rfl⟩
  | 28, _ => exact ⟨_, rfl⟩
  | 29, _ => exact ⟨_, rfl⟩
  | 30, _ => exact ⟨_, rfl⟩
  | 31, _ => exact ⟨_, rfl⟩
  | 32, _ => exact ⟨_, rfl⟩
  | 33, _ => exact ⟨_, rfl⟩
  | 34, _ => exact ⟨_, rfl⟩
  | 35, _ => exact ⟨_, rfl⟩
  | 36, _ => exact ⟨_, rfl⟩
  | k + 37, h => exact absurd h (by omega)
theorem es_P {G : zG} {h0 : Nat} {cN : Int32} {q r1 r2 : Nat → Nat} {H : Heap} (h : va_P G.2.2 zcl (esW G h0 cN q r1 r2) H) : va_P (esG G h0 q r1 r2).2.2 zcl (wlC (esG G h0 q r1 r2) (initC cN)) H := by
  intro k x hx
  match k, hx with
  | 0, hx => cases hx; exact h 0 _ rfl
  | 1, hx => cases hx; exact h 1 _ rfl
  | 2, hx => cases hx; exact h 2 _ rfl
  | 3, hx => cases hx; exact h 3 _ rfl
  | 4, hx => cases hx; exact h 4 _ rfl
  | 5, hx => cases hx; exact h 5 _ rfl
  | 6, hx => cases hx; exact h 6 _ rfl
  | 7, hx => cases hx; exact h 7 _ rfl
  | 8, hx => cases hx; exact h 8 _ rfl
  | 9, hx => cases hx; exact h 9 _ rfl
  | 10, hx => cases hx; exact h 10 _ rfl
  | 11, hx =>
    cases hx
    refine (show H[q 11]? = some (vp_cell (G.2.1 3) (5, .inr (.inr (.inr (.inr (fun i => some (r1 i))))))) from h 11 _ rfl).trans (congrArg some ?_)
    show vp_cell (G.2.1 3) (5, .inr (.inr (.inr (.inr (fun i => some (r1 i)))))) = vp_cell (G.2.1 3) (5, .inr (.inr (.inr (.inr (fun i => some ((esG G h0 q r1 r2).1 (12 + i)))))))
    rw [vp_cell_q, vp_cell_q]
    refine zarr_congr (fun j hj => ?_)
    match j, hj with
    | 0, _ => rfl
    | 1, _ => rfl
    | 2, _ => rfl
    | 3, _ => rfl
    | 4, _ => rfl
    | j + 5, hj => exact absurd hj (by omega)
  | 12, hx => cases hx; exact h 12 _ rfl
  | 13, hx => cases hx; exact h 13 _ rfl
  | 14, hx => cases hx; exact h 14 _ rfl
  | 15, hx => cases hx; exact h 15 _ rfl
  | 16, hx => cases hx; exact h 16 _ rfl
  | 17, hx => cases hx; exact h 17 _ rfl
  | 18, hx => cases hx; exact h 18 _ rfl
  | 19, hx => cases hx; exact h 19 _ rfl
  | 20, hx => cases hx; exact h 20 _ rfl
  | 21, hx => cases hx; exact h 21 _ rfl
  | 22, hx => cases hx; exact h 22 _ rfl
  | 23, hx => cases hx; exact h 23 _ rfl
  | 24, hx => cases hx; exact h 24 _ rfl
  | 25, hx => cases hx; exact h 25 _ rfl
  | 26, hx =>
    cases hx
    refine (show H[q 26]? = some (vp_cell (G.2.1 3) (6, .inr (.inr (.inr (.inr (fun i => some (r2 i))))))) from h 26 _ rfl).trans (congrArg some ?_)
    show vp_cell (G.2.1 3) (6, .inr (.inr (.inr (.inr (fun i => some (r2 i)))))) = vp_cell (G.2.1 3) (6, .inr (.inr (.inr (.inr (fun i => some ((esG G h0 q r1 r2).1 (27 + i)))))))
    rw [vp_cell_q, vp_cell_q]
    refine zarr_congr (fun j hj => ?_)
    match j, hj with
    | 0, _ => rfl
    | 1, _ => rfl
    | 2, _ => rfl
    | 3, _ => rfl
    | 4, _ => rfl
    | 5, _ => rfl
    | j + 6, hj => exact absurd hj (by omega)
  | 27, hx => cases hx; exact h 27 _ rfl
  | 28, hx => cases hx; exact h 28 _ rfl
  | 29, hx => cases hx; exact h 29 _ rfl
  | 30, hx => cases hx; exact h 30 _ rfl
  | 31, hx => cases hx; exact h 31 _ rfl
  | 32, hx => cases hx; exact h 32 _ rfl
  | 33, hx => cases hx; exact h 33 _ rfl
  | 34, hx => cases hx; exact h 34 _ rfl
  | 35, hx => cases hx; exact h 35 _ rfl
  | 36, hx => cases hx; exact h 36 _ rfl
  | k + 37, hx => cases hx
theorem es_ad {G : zG} {h0 : Nat} {cN : Int32} {q r1 r2 : Nat → Nat} {A : Nat → Prop} {X Y : va_W} (hD : va_D A (X ++ (esW G h0 cN q r1 r2 ++ Y))) (hX : X = []) : zIC (esG G h0 q r1 r2) ∧ (∀ k : Nat, k < 37 → A ((esG G h0 q r1 r2).1 k)) ∧ ∀ (k j : Nat) (y : Nat × va_E), k < 37 → Y[j]? = some y → (esG G h0 q r1 r2).1 k ≠ y.1 := by
  subst hX
  have hat : ∀ k : Nat, k < 37 → ∃ e : va_E, ([] ++ (esW G h0 cN q r1 r2 ++ Y))[k]? = some ((esG G h0 q r1 r2).1 k, e) := fun k hk => by
    obtain ⟨e, he⟩ := es_E G h0 cN q r1 r2 k hk
    exact ⟨e, by rw [List.nil_append, List.getElem?_append_left (show k < 37 from hk)]; exact he⟩
  refine ⟨fun i j hi hj h => ?_, fun k hk => ?_, fun k j y hk hy h => ?_⟩
  · obtain ⟨e1, h1⟩ := hat i hi
    obtain ⟨e2, h2⟩ := hat j hj
    exact hD.1 i j _ _ h1 h2 h
  · obtain ⟨e1, h1⟩ := hat k hk
    exact hD.2 k _ h1
  · obtain ⟨e1, h1⟩ := hat k hk
    have h2 : ([] ++ (esW G h0 cN q r1 r2 ++ Y))[37 + j]? = some y := by
      rw [List.nil_append, List.getElem?_append_right (show 37 ≤ 37 + j by omega)]
      rw [show 37 + j - (esW G h0 cN q r1 r2).length = j from Nat.add_sub_cancel_left 37 j]; exact hy
    have := hD.1 k (37 + j) _ _ h1 h2 h
    omega
set_option maxHeartbeats 4000000 in
set_option maxRecDepth 100000 in
theorem law_head {p : Program} {l : Launch} {e : Env} {s : State} {m : MethodId} {below : List Frame} {meth : Method} {c : Code} {b L : Nat} {xs : Nat → Int32} {G : zG} {Inv : Mem → Mem → Prop} {ls : Array Slot} (hL : L ≤ 2561) (C0 : lw_At p s m meth c b L xs) (hfl : l.flags = pinnedFlags ++ [noTraceFlag]) (hZX : zX s.heap.size s) (hKA : zKA G s) (hG : Good Inv) (hI0 : ∀ a : Int32, Inv (initC (clC a)) (clM (mdM (clT a)))) (hl : lv_has ls 8 [(0, .ref b)]) : W p l e room_1 s m #[Value.ref b] below meth c s.heap [] 0 0 (lw_Z below #[Value.ref b] s) (F0 m 0 ls []) := by
  obtain ⟨hx0, hb, hr, hml, hown, hts0, hX, hbl, hlocks, hgv⟩ := id C0
  have hts : ∀ w ∈ zws, w.before #[Value.ref b] s = true := fun w hw => hts0 w (zws_in hw)
  have hown : s.vm.findClass R_La = some m.cls := hown
  have hZ : ZN G s.heap.size s [] s.heap [] := ⟨hKA, fun k q h => by simp at h, ⟨fun i j p q h => by simp at h, fun k q h => by simp at h⟩, va_S.rf⟩
  refine nw_La_ES hx0 hb hts hown hZ (Nat.le_of_ble_eq_true rfl) (Nat.le_of_ble_eq_true rfl) d_La_law_0 (fun q0 H hZ => ?_)
  refine lv_dup hx0 hb d_La_law_3 rfl ?_
  refine lv_aload_n hx0 hb d_La_law_4 rfl (lv_at hl 0 rfl) ?_
  refine lv_iconst (v := (0 : Int32)) hx0 hb d_La_law_5 (by decide) ?_
  refine zn_cell hx0 hb hml hts hown hL hX hbl (Nat.le_refl _) hZ hl ⟨Nat.le_of_ble_eq_true rfl, Nat.le_of_ble_eq_true rfl⟩ ⟨Nat.le_of_ble_eq_true rfl, Nat.le_of_ble_eq_true rfl⟩ (Nat.le_of_ble_eq_true rfl) d_La_law_6 (fun H locs hZ => ?_)
  refine zn_join (X := []) (va_runI (n := 1) (As := [.int (zcv L xs)]) (rest := [.ref q0]) ⟨hx0, hb, hml, hown, hts⟩ (ct_ES l G q0 (zcv L xs) H.size) ⟨(zcBc hts wc_ES_init wini_ES wm_La_38 (by decide +kernel) rfl rfl ⟨Nat.le_of_ble_eq_true rfl, Nat.le_of_ble_eq_true rfl⟩), rfl, hts _ wi_ES_init⟩ ⟨zPN_blind, zPN_at (X := []) hZ⟩ rfl rfl hl.1 rfl (lv_room (Nat.le_of_ble_eq_true rfl)) d_La_law_9 ⟨Nat.le_of_ble_eq_true rfl, Nat.le_of_ble_eq_true rfl⟩) hZ (fun w9 H locs hw9 hZ => ?_)
  obtain ⟨qe, re1, re2, rfl⟩ := hw9
  have hZ : ZN G s.heap.size s (esW G q0 (clC (zcv L xs)) qe re1 re2) H _ := hZ
  refine lv_astore_n (lv' := [(1, .ref q0), (0, .ref b)]) hx0 hb d_La_law_12 rfl hl (by decide) rfl (fun ls hl => ?_)
  refine nw_La_Md hx0 hb hts hown hZ (Nat.le_of_ble_eq_true rfl) (Nat.le_of_ble_eq_true rfl) d_La_law_13 (fun q13 H hZ => ?_)
  refine lv_dup hx0 hb d_La_law_16 rfl ?_
  refine lv_aload_n hx0 hb d_La_law_17 rfl (lv_at hl 1 rfl) ?_
  refine lv_iconst (v := (0 : Int32)) hx0 hb d_La_law_18 (by decide) ?_
  refine zn_cell hx0 hb hml hts hown hL hX hbl (Nat.le_refl _) hZ hl ⟨Nat.le_of_ble_eq_true rfl, Nat.le_of_ble_eq_true rfl⟩ ⟨Nat.le_of_ble_eq_true rfl, Nat.le_of_ble_eq_true rfl⟩ (Nat.le_of_ble_eq_true rfl) d_La_law_19 (fun H locs hZ => ?_)
  refine zn_join (X := esW G q0 (clC (zcv L xs)) qe re1 re2) (va_runI (n := 1) (As := [.int (zcv L xs)]) (rest := [.ref q13]) ⟨hx0, hb, hml, hown, hts⟩ (ct_Md l G q13 (zcv L xs) H.size) ⟨(zcBc hts wc_Md_init wini_Md wm_La_43 (by decide +kernel) rfl rfl ⟨Nat.le_of_ble_eq_true rfl, Nat.le_of_ble_eq_true rfl⟩), rfl, hts _ wi_Md_init⟩ ⟨zPN_blind, zPN_at (X := esW G q0 (clC (zcv L xs)) qe re1 re2) hZ⟩ rfl rfl hl.1 rfl (lv_room (Nat.le_of_ble_eq_true rfl)) d_La_law_22 ⟨Nat.le_of_ble_eq_true rfl, Nat.le_of_ble_eq_true rfl⟩) hZ (fun w9 H locs hw9 hZ => ?_)
  obtain ⟨qm, rfl⟩ := hw9
  refine lv_astore_n (lv' := [(2, .ref q13), (1, .ref q0), (0, .ref b)]) hx0 hb d_La_law_25 rfl hl (by decide) rfl (fun ls hl => ?_)
  refine lv_iconst (v := (1 : Int32)) hx0 hb d_La_law_26 (by decide) ?_
  refine zn_newl (N := 1) hx0 hb hts wa_long hZ (by decide) (by decide) (Nat.le_of_ble_eq_true rfl) (Nat.le_of_ble_eq_true rfl) (Nat.le_of_ble_eq_true rfl) d_La_law_27 (fun q27 H hZ => ?_)
  refine lv_astore_n (lv' := [(3, .ref q27), (2, .ref q13), (1, .ref q0), (0, .ref b)]) hx0 hb d_La_law_29 rfl hl (by decide) rfl (fun ls hl => ?_)
  refine lv_iconst (v := (1 : Int32)) hx0 hb d_La_law_30 (by decide) ?_
  refine lv_istore (lv' := [(4, .int (1 : Int32)), (3, .ref q27), (2, .ref q13), (1, .ref q0), (0, .ref b)]) hx0 hb d_La_law_31 hl (by decide) rfl (fun ls hl => ?_)
  have hZ : ZN G s.heap.size s ([] ++ (esW G q0 (clC (zcv L xs)) qe re1 re2 ++ (wlT (mdG G q13 qm) (clM (mdM (clT (zcv L xs)))) ++ zO G q27 (fun _ => 0)))) H locs := by rw [List.nil_append, ← List.append_assoc]; exact hZ
  obtain ⟨-, hP, hD, hS⟩ := hZ
  have hA : ∀ q : Nat, zAo s.heap.size s.heap.size q → s.heap.size ≤ q := fun q h => by
    rcases h with h | h
    · exact Nat.le_of_eq h.symm
    · exact h
  obtain ⟨d1, d2, d3⟩ := es_ad hD rfl
  have hP1 : va_P G.2.2 zcl (esW G q0 (clC (zcv L xs)) qe re1 re2) H := fun k x hx => hP k x (by rw [List.nil_append, List.getElem?_append_left (List.getElem?_eq_some_iff.mp hx).1]; exact hx)
  have hPr : va_P G.2.2 zcl (wlT (mdG G q13 qm) (clM (mdM (clT (zcv L xs)))) ++ zO G q27 (fun _ => 0)) H := fun k x hx => hP (37 + k) x (by rw [List.nil_append, List.getElem?_append_right (show 37 ≤ 37 + k by omega), show 37 + k - (esW G q0 (clC (zcv L xs)) qe re1 re2).length = k from Nat.add_sub_cancel_left 37 k]; exact hx)
  have hDr : va_D (zAo s.heap.size s.heap.size) (wlT (mdG G q13 qm) (clM (mdM (clT (zcv L xs)))) ++ zO G q27 (fun _ => 0)) := ⟨fun i j x y hx hy h => by
      have hh : ∀ (k : Nat) (z : Nat × va_E), (wlT (mdG G q13 qm) (clM (mdM (clT (zcv L xs)))) ++ zO G q27 (fun _ => 0))[k]? = some z → ([] ++ (esW G q0 (clC (zcv L xs)) qe re1 re2 ++ (wlT (mdG G q13 qm) (clM (mdM (clT (zcv L xs)))) ++ zO G q27 (fun _ => 0))))[37 + k]? = some z := fun k z hz => by rw [List.nil_append, List.getElem?_append_right (show 37 ≤ 37 + k by omega), show 37 + k - (esW G q0 (clC (zcv L xs)) qe re1 re2).length = k from Nat.add_sub_cancel_left 37 k]; exact hz
      have := hD.1 (37 + i) (37 + j) x y (hh i x hx) (hh j y hy) h
      omega, fun k x hx => hD.2 (37 + k) x (by rw [List.nil_append, List.getElem?_append_right (show 37 ≤ 37 + k by omega), show 37 + k - (esW G q0 (clC (zcv L xs)) qe re1 re2).length = k from Nat.add_sub_cancel_left 37 k]; exact hx)⟩
  have hTl : ∀ (k : Nat) (z : Nat × va_E), (wlT (mdG G q13 qm) (clM (mdM (clT (zcv L xs)))))[k]? = some z → (wlT (mdG G q13 qm) (clM (mdM (clT (zcv L xs)))) ++ zO G q27 (fun _ => 0))[k]? = some z := fun k z hz => by rw [List.getElem?_append_left (List.getElem?_eq_some_iff.mp hz).1]; exact hz
  have hTo : (wlT (mdG G q13 qm) (clM (mdM (clT (zcv L xs)))) ++ zO G q27 (fun _ => 0))[18]? = some (q27, .inl (G.2.1 1, 1, .inr (.inl (fun _ => 0)))) := rfl
  have hDT : va_D (zAo s.heap.size s.heap.size) (wlT (mdG G q13 qm) (clM (mdM (clT (zcv L xs))))) := ⟨fun i j x y hx hy h => hDr.1 i j x y (hTl i x hx) (hTl j y hy) h, fun k x hx => hDr.2 k x (hTl k x hx)⟩
  refine law_loop (G1 := (esG G q0 qe re1 re2)) (G2 := (mdG G q13 qm)) (o := q27) hL C0 hfl hZX hG (L + 6) 1 _ _ (initC (clC (zcv L xs))) (clM (mdM (clT (zcv L xs)))) (fun _ => 0) H locs ls (1 : Int32) rfl (by omega) (by omega) (Nat.le_of_ble_eq_true rfl) (Nat.le_of_ble_eq_true rfl) (hI0 _) ⟨d1, zI_ofT hDT, ?_, ?_, es_P hP1, fun k x hx => hPr k x (hTl k x hx), fun k x hx => ?_, ⟨fun k hk => hA _ (d2 k hk), fun k hk => ?_, hA _ (hDr.2 18 _ hTo), fun k j hk hj => ?_, fun k hk => d3 k 18 _ hk hTo, fun k hk => ?_⟩, ⟨hS.1, fun q h1 h2 => hS.2.1 q h1 (fun z => h2 (hA q z)), fun q hq => hA _ (hS.2.2 q hq)⟩⟩ (lv_sub hl [4, 3, 2, 1, 0] rfl)
  · exact hKA.1
  · exact hKA.1
  · match k, hx with
    | 0, hx => cases hx; exact hPr 18 _ hTo
    | k + 1, hx => cases hx
  · obtain ⟨e1, he1⟩ := wlET (mdG G q13 qm) (clM (mdM (clT (zcv L xs)))) k hk
    exact hA _ (hDr.2 k _ (hTl k _ he1))
  · obtain ⟨e1, he1⟩ := wlET (mdG G q13 qm) (clM (mdM (clT (zcv L xs)))) j hj
    exact d3 k j _ hk (hTl j _ he1)
  · obtain ⟨e1, he1⟩ := wlET (mdG G q13 qm) (clM (mdM (clT (zcv L xs)))) k hk
    intro h
    have := hDr.1 k 18 _ _ (hTl k _ he1) hTo h
    omega
