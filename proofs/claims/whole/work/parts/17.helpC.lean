section ZHT
variable {p : Program} {l : Launch} {e : Env} {R : Room} {s : State} {m : MethodId} {args : Array Value} {below : List Frame} {meth : Method} {c : Code} {H : Heap} {locs : List Loc} {cells slots : Nat} {Q : State → Prop}
variable {cc : ByteArray} {pc nL : Nat} {ls : Array Slot} {rest : List Value} {G : zG} {o : Nat} {M M2 : Mem} {fo : Nat → Int64} {N0 : Nat}
theorem zh_ret {v : Int32} (hx0 : p.tables.exec = Jvm.exec) (hb : c.code = cc) (hr : meth.sig.returnType = some .int) (hZ : ZH G o s M fo H locs) (hlocks : meth.locks = false) (hQ : Q = MQ below (zQH G o s.heap.size v M fo) args s 1 6 (zAH G o s.heap.size)) (hc : cells ≤ 1) (hs : slots ≤ 6) (hdg : decode cc pc = .ok (.ireturn, 1)) : W p l e R s m args below meth c H locs cells slots Q (F0 m pc ls [.int v]) := by
  subst hQ
  refine W.widen (k := 1) (n := 6) hc hs ?_
  exact W.iret (v := v) hx0 hb hr (fun t ht _ => ⟨rfl, by rw [ht]; exact hZ.2.2.1, by rw [ht]; exact hZ.2.2.2.1, hZ.2.2.2.2.2.F ht⟩) hZ.2.2.2.2.2.2.2 hdg hlocks
end ZHT
theorem wc_La_value : Cond.codeWith y_La_value b_La_value 5 (some .int) [(0, 9, 12, 13)] ∈ zws := zmem 457 (by decide +kernel) (by decide +kernel)
theorem wst_La_value : Cond.static y_La_value ∈ zws := zmem 456 (by decide +kernel) (by decide +kernel)
theorem wc_La_share : Cond.codeWith y_La_share b_La_share 6 (some .int) [(0, 11, 14, 13)] ∈ zws := zmem 542 (by decide +kernel) (by decide +kernel)
theorem wst_La_share : Cond.static y_La_share ∈ zws := zmem 541 (by decide +kernel) (by decide +kernel)
theorem wc_La_both : Cond.codeWith y_La_both b_La_both 6 (some .int) [(0, 11, 14, 13)] ∈ zws := zmem 562 (by decide +kernel) (by decide +kernel)
theorem wst_La_both : Cond.static y_La_both ∈ zws := zmem 561 (by decide +kernel) (by decide +kernel)
theorem wc_La_drawn : Cond.codeWith y_La_drawn b_La_drawn 7 (some .int) [(0, 13, 16, 13)] ∈ zws := zmem 577 (by decide +kernel) (by decide +kernel)
theorem wst_La_drawn : Cond.static y_La_drawn ∈ zws := zmem 576 (by decide +kernel) (by decide +kernel)
theorem wc_La_partial : Cond.codeWith y_La_partial b_La_partial 6 (some .int) [(0, 11, 14, 13)] ∈ zws := zmem 610 (by decide +kernel) (by decide +kernel)
theorem wst_La_partial : Cond.static y_La_partial ∈ zws := zmem 609 (by decide +kernel) (by decide +kernel)
theorem wc_La_worth : Cond.codeWith y_La_worth b_La_worth 5 (some .int) [(0, 9, 12, 13)] ∈ zws := zmem 625 (by decide +kernel) (by decide +kernel)
theorem wst_La_worth : Cond.static y_La_worth ∈ zws := zmem 624 (by decide +kernel) (by decide +kernel)
theorem wini_La : Cond.initialized R_La ∈ zws := zmem 0 (by decide +kernel) (by decide +kernel)
theorem wcl_La_13 : Cond.classLink R_La 13 xN ∈ zws := zmem 458 (by decide +kernel) (by decide +kernel)
abbrev rm_La_value : Room := { frames := 8, cells := 1, slots := 6, locals := 138 }
set_option maxHeartbeats 4000000 in
set_option maxRecDepth 100000 in
theorem ch_La_value (l : Launch) (G : zG) (o : Nat) (a1 a2 : Int32) (M : Mem) (fo : Nat → Int64) (r : Int64) (M2 : Mem) (h : p_ES_value a1 a2 M = some (some r, M2)) : MetH l G o y_La_value (Cond.codeWith y_La_value b_La_value 5 (some .int) [(0, 9, 12, 13)] :: zws) rm_La_value [.ref (G.1 0), .int a1, .int a2, .ref o] M fo 0 M2 (vp_updL fo 0 r) := by
  refine z_ofH (lv := [(0, .ref (G.1 0)), (1, .int a1), (2, .int a2), (3, .ref o)]) (by decide) (Nat.le_of_ble_eq_true rfl) rfl (fun p e R s m args below meth c Q N0 ls F hl hZ => ?_)
  obtain ⟨hx0, hb, hml, hr, hts, hown, hlocks, rfl, hQ, htab, hN, hNG, hNo, hX⟩ := F
  refine lv_aload_n hx0 hb d_La_value_0 rfl (lv_at hl 3 rfl) ?_
  refine lv_iconst (v := (0 : Int32)) hx0 hb d_La_value_1 (by decide) ?_
  refine lv_aload_n hx0 hb d_La_value_2 rfl (lv_at hl 0 rfl) ?_
  refine lv_iload_n hx0 hb d_La_value_3 rfl (lv_at hl 1 rfl) ?_
  refine lv_iload_n hx0 hb d_La_value_4 rfl (lv_at hl 2 rfl) ?_
  refine zh_run (va_runV (n := 2) (As := [.int a1, .int a2]) (rest := [.int 0, .ref o]) ⟨hx0, hb, hml, hown, hts⟩ (c_ES_value l G a1 a2 M r M2 h s.heap.size) ⟨zcB hts wc_ES_value wini_ES wm_La_7 (by decide +kernel) rfl rfl ⟨Nat.le_of_ble_eq_true rfl, Nat.le_of_ble_eq_true rfl⟩, hts _ wi_ES_value, hts _ ws_ES_value⟩ ⟨zP_blindC, va_recv hZ.2.1.1 hZ.2.2.1 (ci := 6) (q0 := 0) rfl rfl, zP_atH hZ⟩ rfl rfl hl.1 rfl (lv_room (Nat.le_of_ble_eq_true rfl)) d_La_value_5 ⟨Nat.zero_le _, Nat.zero_le _⟩) hZ (fun H locs hZ => ?_)
  refine zh_last hx0 hb hZ d_La_value_8 (fun H locs hZ => ?_)
  refine lv_goto (tgt := 16) hx0 hb d_La_value_9 (by decide) ?_
  refine lv_iconst (v := (0 : Int32)) hx0 hb d_La_value_16 (by decide) ?_
  exact zh_ret hx0 hb hr hZ hlocks hQ (by decide) (by decide) d_La_value_17
set_option maxHeartbeats 4000000 in
set_option maxRecDepth 100000 in
theorem chx_La_value (l : Launch) (hfl : l.flags = pinnedFlags ++ [noTraceFlag]) (G : zG) (o : Nat) (a1 a2 : Int32) (M : Mem) (fo : Nat → Int64) (M2 : Mem) (h : p_ES_value a1 a2 M = some (none, M2)) : MetH l G o y_La_value (Cond.codeWith y_La_value b_La_value 5 (some .int) [(0, 9, 12, 13)] :: zws) rm_La_value [.ref (G.1 0), .int a1, .int a2, .ref o] M fo 1 M2 fo := by
  refine z_ofH (lv := [(0, .ref (G.1 0)), (1, .int a1), (2, .int a2), (3, .ref o)]) (by decide) (Nat.le_of_ble_eq_true rfl) rfl (fun p e R s m args below meth c Q N0 ls F hl hZ => ?_)
  obtain ⟨hx0, hb, hml, hr, hts, hown, hlocks, rfl, hQ, htab, hN, hNG, hNo, hX⟩ := F
  refine lv_aload_n hx0 hb d_La_value_0 rfl (lv_at hl 3 rfl) ?_
  refine lv_iconst (v := (0 : Int32)) hx0 hb d_La_value_1 (by decide) ?_
  refine lv_aload_n hx0 hb d_La_value_2 rfl (lv_at hl 0 rfl) ?_
  refine lv_iload_n hx0 hb d_La_value_3 rfl (lv_at hl 1 rfl) ?_
  refine lv_iload_n hx0 hb d_La_value_4 rfl (lv_at hl 2 rfl) ?_
  refine zh_catch (n := 2) (C := R_ES) [.int a1, .int a2] hx0 hb hml hts hown (cx_ES_value l hfl G a1 a2 M M2 h) wc_ES_value wini_ES wi_ES_value ws_ES_value wm_La_7 wcl_La_13 (by decide +kernel) rfl hZ hN hNG hNo hX htab (by decide) (by decide) rfl rfl ⟨Nat.le_of_ble_eq_true rfl, Nat.le_of_ble_eq_true rfl⟩ ⟨Nat.le_of_ble_eq_true rfl, Nat.le_of_ble_eq_true rfl⟩ hl.1 rfl (Nat.le_of_ble_eq_true rfl) d_La_value_5 (fun v H locs hZ => ?_)
  refine lv_astore (lv' := [(4, .ref v), (0, .ref (G.1 0)), (1, .int a1), (2, .int a2), (3, .ref o)]) hx0 hb d_La_value_12 hl (by decide) rfl (fun ls hl => ?_)
  refine lv_iconst (v := (1 : Int32)) hx0 hb d_La_value_14 (by decide) ?_
  exact zh_ret hx0 hb hr hZ hlocks hQ (by decide) (by decide) d_La_value_15
abbrev rm_La_share : Room := { frames := 8, cells := 1, slots := 6, locals := 149 }
set_option maxHeartbeats 4000000 in
set_option maxRecDepth 100000 in
theorem ch_La_share (l : Launch) (G : zG) (o : Nat) (a1 a2 a3 : Int32) (M : Mem) (fo : Nat → Int64) (r : Int64) (M2 : Mem) (h : p_ES_share a1 a2 a3 M = some (some r, M2)) : MetH l G o y_La_share (Cond.codeWith y_La_share b_La_share 6 (some .int) [(0, 11, 14, 13)] :: zws) rm_La_share [.ref (G.1 0), .int a1, .int a2, .int a3, .ref o] M fo 0 M2 (vp_updL fo 0 r) := by
  refine z_ofH (lv := [(0, .ref (G.1 0)), (1, .int a1), (2, .int a2), (3, .int a3), (4, .ref o)]) (by decide) (Nat.le_of_ble_eq_true rfl) rfl (fun p e R s m args below meth c Q N0 ls F hl hZ => ?_)
  obtain ⟨hx0, hb, hml, hr, hts, hown, hlocks, rfl, hQ, htab, hN, hNG, hNo, hX⟩ := F
  refine lv_aload hx0 hb d_La_share_0 (lv_at hl 4 rfl) ?_
  refine lv_iconst (v := (0 : Int32)) hx0 hb d_La_share_2 (by decide) ?_
  refine lv_aload_n hx0 hb d_La_share_3 rfl (lv_at hl 0 rfl) ?_
  refine lv_iload_n hx0 hb d_La_share_4 rfl (lv_at hl 1 rfl) ?_
  refine lv_iload_n hx0 hb d_La_share_5 rfl (lv_at hl 2 rfl) ?_
  refine lv_iload_n hx0 hb d_La_share_6 rfl (lv_at hl 3 rfl) ?_
  refine zh_run (va_runV (n := 3) (As := [.int a1, .int a2, .int a3]) (rest := [.int 0, .ref o]) ⟨hx0, hb, hml, hown, hts⟩ (c_ES_share l G a1 a2 a3 M r M2 h s.heap.size) ⟨zcB hts wc_ES_share wini_ES wm_La_15 (by decide +kernel) rfl rfl ⟨Nat.le_of_ble_eq_true rfl, Nat.le_of_ble_eq_true rfl⟩, hts _ wi_ES_share, hts _ ws_ES_share⟩ ⟨zP_blindC, va_recv hZ.2.1.1 hZ.2.2.1 (ci := 6) (q0 := 0) rfl rfl, zP_atH hZ⟩ rfl rfl hl.1 rfl (lv_room (Nat.le_of_ble_eq_true rfl)) d_La_share_7 ⟨Nat.zero_le _, Nat.zero_le _⟩) hZ (fun H locs hZ => ?_)
  refine zh_last hx0 hb hZ d_La_share_10 (fun H locs hZ => ?_)
  refine lv_goto (tgt := 18) hx0 hb d_La_share_11 (by decide) ?_
  refine lv_iconst (v := (0 : Int32)) hx0 hb d_La_share_18 (by decide) ?_
  exact zh_ret hx0 hb hr hZ hlocks hQ (by decide) (by decide) d_La_share_19
set_option maxHeartbeats 4000000 in
set_option maxRecDepth 100000 in
theorem chx_La_share (l : Launch) (hfl : l.flags = pinnedFlags ++ [noTraceFlag]) (G : zG) (o : Nat) (a1 a2 a3 : Int32) (M : Mem) (fo : Nat → Int64) (M2 : Mem) (h : p_ES_share a1 a2 a3 M = some (none, M2)) : MetH l G o y_La_share (Cond.codeWith y_La_share b_La_share 6 (some .int) [(0, 11, 14, 13)] :: zws) rm_La_share [.ref (G.1 0), .int a1, .int a2, .int a3, .ref o] M fo 1 M2 fo := by
  refine z_ofH (lv := [(0, .ref (G.1 0)), (1, .int a1), (2, .int a2), (3, .int a3), (4, .ref o)]) (by decide) (Nat.le_of_ble_eq_true rfl) rfl (fun p e R s m args below meth c Q N0 ls F hl hZ => ?_)
  obtain ⟨hx0, hb, hml, hr, hts, hown, hlocks, rfl, hQ, htab, hN, hNG, hNo, hX⟩ := F
  refine lv_aload hx0 hb d_La_share_0 (lv_at hl 4 rfl) ?_
  refine lv_iconst (v := (0 : Int32)) hx0 hb d_La_share_2 (by decide) ?_
  refine lv_aload_n hx0 hb d_La_share_3 rfl (lv_at hl 0 rfl) ?_
  refine lv_iload_n hx0 hb d_La_share_4 rfl (lv_at hl 1 rfl) ?_
  refine lv_iload_n hx0 hb d_La_share_5 rfl (lv_at hl 2 rfl) ?_
  refine lv_iload_n hx0 hb d_La_share_6 rfl (lv_at hl 3 rfl) ?_
  refine zh_catch (n := 3) (C := R_ES) [.int a1, .int a2, .int a3] hx0 hb hml hts hown (cx_ES_share l hfl G a1 a2 a3 M M2 h) wc_ES_share wini_ES wi_ES_share ws_ES_share wm_La_15 wcl_La_13 (by decide +kernel) rfl hZ hN hNG hNo hX htab (by decide) (by decide) rfl rfl ⟨Nat.le_of_ble_eq_true rfl, Nat.le_of_ble_eq_true rfl⟩ ⟨Nat.le_of_ble_eq_true rfl, Nat.le_of_ble_eq_true rfl⟩ hl.1 rfl (Nat.le_of_ble_eq_true rfl) d_La_share_7 (fun v H locs hZ => ?_)
  refine lv_astore (lv' := [(5, .ref v), (0, .ref (G.1 0)), (1, .int a1), (2, .int a2), (3, .int a3), (4, .ref o)]) hx0 hb d_La_share_14 hl (by decide) rfl (fun ls hl => ?_)
  refine lv_iconst (v := (1 : Int32)) hx0 hb d_La_share_16 (by decide) ?_
  exact zh_ret hx0 hb hr hZ hlocks hQ (by decide) (by decide) d_La_share_17
abbrev rm_La_both : Room := { frames := 8, cells := 1, slots := 6, locals := 151 }
set_option maxHeartbeats 4000000 in
set_option maxRecDepth 100000 in
theorem ch_La_both (l : Launch) (G : zG) (o : Nat) (a1 a2 a3 : Int32) (M : Mem) (fo : Nat → Int64) (r : Int64) (M2 : Mem) (h : p_ES_both a1 a2 a3 M = some (some r, M2)) : MetH l G o y_La_both (Cond.codeWith y_La_both b_La_both 6 (some .int) [(0, 11, 14, 13)] :: zws) rm_La_both [.ref (G.1 0), .int a1, .int a2, .int a3, .ref o] M fo 0 M2 (vp_updL fo 0 r) := by
  refine z_ofH (lv := [(0, .ref (G.1 0)), (1, .int a1), (2, .int a2), (3, .int a3), (4, .ref o)]) (by decide) (Nat.le_of_ble_eq_true rfl) rfl (fun p e R s m args below meth c Q N0 ls F hl hZ => ?_)
  obtain ⟨hx0, hb, hml, hr, hts, hown, hlocks, rfl, hQ, htab, hN, hNG, hNo, hX⟩ := F
  refine lv_aload hx0 hb d_La_both_0 (lv_at hl 4 rfl) ?_
  refine lv_iconst (v := (0 : Int32)) hx0 hb d_La_both_2 (by decide) ?_
  refine lv_aload_n hx0 hb d_La_both_3 rfl (lv_at hl 0 rfl) ?_
  refine lv_iload_n hx0 hb d_La_both_4 rfl (lv_at hl 1 rfl) ?_
  refine lv_iload_n hx0 hb d_La_both_5 rfl (lv_at hl 2 rfl) ?_
  refine lv_iload_n hx0 hb d_La_both_6 rfl (lv_at hl 3 rfl) ?_
  refine zh_run (va_runV (n := 3) (As := [.int a1, .int a2, .int a3]) (rest := [.int 0, .ref o]) ⟨hx0, hb, hml, hown, hts⟩ (c_ES_both l G a1 a2 a3 M r M2 h s.heap.size) ⟨zcB hts wc_ES_both wini_ES wm_La_19 (by decide +kernel) rfl rfl ⟨Nat.le_of_ble_eq_true rfl, Nat.le_of_ble_eq_true rfl⟩, hts _ wi_ES_both, hts _ ws_ES_both⟩ ⟨zP_blindC, va_recv hZ.2.1.1 hZ.2.2.1 (ci := 6) (q0 := 0) rfl rfl, zP_atH hZ⟩ rfl rfl hl.1 rfl (lv_room (Nat.le_of_ble_eq_true rfl)) d_La_both_7 ⟨Nat.zero_le _, Nat.zero_le _⟩) hZ (fun H locs hZ => ?_)
  refine zh_last hx0 hb hZ d_La_both_10 (fun H locs hZ => ?_)
  refine lv_goto (tgt := 18) hx0 hb d_La_both_11 (by decide) ?_
  refine lv_iconst (v := (0 : Int32)) hx0 hb d_La_both_18 (by decide) ?_
  exact zh_ret hx0 hb hr hZ hlocks hQ (by decide) (by decide) d_La_both_19
set_option maxHeartbeats 4000000 in
set_option maxRecDepth 100000 in
theorem chx_La_both (l : Launch) (hfl : l.flags = pinnedFlags ++ [noTraceFlag]) (G : zG) (o : Nat) (a1 a2 a3 : Int32) (M : Mem) (fo : Nat → Int64) (M2 : Mem) (h : p_ES_both a1 a2 a3 M = some (none, M2)) : MetH l G o y_La_both (Cond.codeWith y_La_both b_La_both 6 (some .int) [(0, 11, 14, 13)] :: zws) rm_La_both [.ref (G.1 0), .int a1, .int a2, .int a3, .ref o] M fo 1 M2 fo := by
  refine z_ofH (lv := [(0, .ref (G.1 0)), (1, .int a1), (2, .int a2), (3, .int a3), (4, .ref o)]) (by decide) (Nat.le_of_ble_eq_true rfl) rfl (fun p e R s m args below meth c Q N0 ls F hl hZ => ?_)
  obtain ⟨hx0, hb, hml, hr, hts, hown, hlocks, rfl, hQ, htab, hN, hNG, hNo, hX⟩ := F
  refine lv_aload hx0 hb d_La_both_0 (lv_at hl 4 rfl) ?_
  refine lv_iconst (v := (0 : Int32)) hx0 hb d_La_both_2 (by decide) ?_
  refine lv_aload_n hx0 hb d_La_both_3 rfl (lv_at hl 0 rfl) ?_
  refine lv_iload_n hx0 hb d_La_both_4 rfl (lv_at hl 1 rfl) ?_
  refine lv_iload_n hx0 hb d_La_both_5 rfl (lv_at hl 2 rfl) ?_
  refine lv_iload_n hx0 hb d_La_both_6 rfl (lv_at hl 3 rfl) ?_
  refine zh_catch (n := 3) (C := R_ES) [.int a1, .int a2, .int a3] hx0 hb hml hts hown (cx_ES_both l hfl G a1 a2 a3 M M2 h) wc_ES_both wini_ES wi_ES_both ws_ES_both wm_La_19 wcl_La_13 (by decide +kernel) rfl hZ hN hNG hNo hX htab (by decide) (by decide) rfl rfl ⟨Nat.le_of_ble_eq_true rfl, Nat.le_of_ble_eq_true rfl⟩ ⟨Nat.le_of_ble_eq_true rfl, Nat.le_of_ble_eq_true rfl⟩ hl.1 rfl (Nat.le_of_ble_eq_true rfl) d_La_both_7 (fun v H locs hZ => ?_)
  refine lv_astore (lv' := [(5, .ref v), (0, .ref (G.1 0)), (1, .int a1), (2, .int a2), (3, .int a3), (4, .ref o)]) hx0 hb d_La_both_14 hl (by decide) rfl (fun ls hl => ?_)
  refine lv_iconst (v := (1 : Int32)) hx0 hb d_La_both_16 (by decide) ?_
  exact zh_ret hx0 hb hr hZ hlocks hQ (by decide) (by decide) d_La_both_17
abbrev rm_La_drawn : Room := { frames := 8, cells := 1, slots := 6, locals := 147 }
set_option maxHeartbeats 4000000 in
set_option maxRecDepth 100000 in
theorem ch_La_drawn (l : Launch) (G : zG) (o : Nat) (a1 a2 a3 a4 : Int32) (M : Mem) (fo : Nat → Int64) (r : Int64) (M2 : Mem) (h : p_ES_drawn a1 a2 a3 a4 M = some (some r, M2)) : MetH l G o y_La_drawn (Cond.codeWith y_La_drawn b_La_drawn 7 (some .int) [(0, 13, 16, 13)] :: zws) rm_La_drawn [.ref (G.1 0), .int a1, .int a2, .int a3, .int a4, .ref o] M fo 0 M2 (vp_updL fo 0 r) := by
  refine z_ofH (lv := [(0, .ref (G.1 0)), (1, .int a1), (2, .int a2), (3, .int a3), (4, .int a4), (5, .ref o)]) (by decide) (Nat.le_of_ble_eq_true rfl) rfl (fun p e R s m args below meth c Q N0 ls F hl hZ => ?_)
  obtain ⟨hx0, hb, hml, hr, hts, hown, hlocks, rfl, hQ, htab, hN, hNG, hNo, hX⟩ := F
  refine lv_aload hx0 hb d_La_drawn_0 (lv_at hl 5 rfl) ?_
  refine lv_iconst (v := (0 : Int32)) hx0 hb d_La_drawn_2 (by decide) ?_
  refine lv_aload_n hx0 hb d_La_drawn_3 rfl (lv_at hl 0 rfl) ?_
  refine lv_iload_n hx0 hb d_La_drawn_4 rfl (lv_at hl 1 rfl) ?_
  refine lv_iload_n hx0 hb d_La_drawn_5 rfl (lv_at hl 2 rfl) ?_
  refine lv_iload_n hx0 hb d_La_drawn_6 rfl (lv_at hl 3 rfl) ?_
  refine lv_iload hx0 hb d_La_drawn_7 (lv_at hl 4 rfl) ?_
  refine zh_run (va_runV (n := 4) (As := [.int a1, .int a2, .int a3, .int a4]) (rest := [.int 0, .ref o]) ⟨hx0, hb, hml, hown, hts⟩ (c_ES_drawn l G a1 a2 a3 a4 M r M2 h s.heap.size) ⟨zcB hts wc_ES_drawn wini_ES wm_La_22 (by decide +kernel) rfl rfl ⟨Nat.le_of_ble_eq_true rfl, Nat.le_of_ble_eq_true rfl⟩, hts _ wi_ES_drawn, hts _ ws_ES_drawn⟩ ⟨zP_blindC, va_recv hZ.2.1.1 hZ.2.2.1 (ci := 6) (q0 := 0) rfl rfl, zP_atH hZ⟩ rfl rfl hl.1 rfl (lv_room (Nat.le_of_ble_eq_true rfl)) d_La_drawn_9 ⟨Nat.zero_le _, Nat.zero_le _⟩) hZ (fun H locs hZ => ?_)
  refine zh_last hx0 hb hZ d_La_drawn_12 (fun H locs hZ => ?_)
  refine lv_goto (tgt := 20) hx0 hb d_La_drawn_13 (by decide) ?_
  refine lv_iconst (v := (0 : Int32)) hx0 hb d_La_drawn_20 (by decide) ?_
  exact zh_ret hx0 hb hr hZ hlocks hQ (by decide) (by decide) d_La_drawn_21
set_option maxHeartbeats 4000000 in
set_option maxRecDepth 100000 in
theorem chx_La_drawn (l : Launch) (hfl : l.flags = pinnedFlags ++ [noTraceFlag]) (G : zG) (o : Nat) (a1 a2 a3 a4 : Int32) (M : Mem) (fo : Nat → Int64) (M2 : Mem) (h : p_ES_drawn a1 a2 a3 a4 M = some (none, M2)) : MetH l G o y_La_drawn (Cond.codeWith y_La_drawn b_La_drawn 7 (some .int) [(0, 13, 16, 13)] :: zws) rm_La_drawn [.ref (G.1 0), .int a1, .int a2, .int a3, .int a4, .ref o] M fo 1 M2 fo := by
  refine z_ofH (lv := [(0, .ref (G.1 0)), (1, .int a1), (2, .int a2), (3, .int a3), (4, .int a4), (5, .ref o)]) (by decide) (Nat.le_of_ble_eq_true rfl) rfl (fun p e R s m args below meth c Q N0 ls F hl hZ => ?_)
  obtain ⟨hx0, hb, hml, hr, hts, hown, hlocks, rfl, hQ, htab, hN, hNG, hNo, hX⟩ := F
  refine lv_aload hx0 hb d_La_drawn_0 (lv_at hl 5 rfl) ?_
  refine lv_iconst (v := (0 : Int32)) hx0 hb d_La_drawn_2 (by decide) ?_
  refine lv_aload_n hx0 hb d_La_drawn_3 rfl (lv_at hl 0 rfl) ?_
  refine lv_iload_n hx0 hb d_La_drawn_4 rfl (lv_at hl 1 rfl) ?_
  refine lv_iload_n hx0 hb d_La_drawn_5 rfl (lv_at hl 2 rfl) ?_
  refine lv_iload_n hx0 hb d_La_drawn_6 rfl (lv_at hl 3 rfl) ?_
  refine lv_iload hx0 hb d_La_drawn_7 (lv_at hl 4 rfl) ?_
  refine zh_catch (n := 4) (C := R_ES) [.int a1, .int a2, .int a3, .int a4] hx0 hb hml hts hown (cx_ES_drawn l hfl G a1 a2 a3 a4 M M2 h) wc_ES_drawn wini_ES wi_ES_drawn ws_ES_drawn wm_La_22 wcl_La_13 (by decide +kernel) rfl hZ hN hNG hNo hX htab (by decide) (by decide) rfl rfl ⟨Nat.le_of_ble_eq_true rfl, Nat.le_of_ble_eq_true rfl⟩ ⟨Nat.le_of_ble_eq_true rfl, Nat.le_of_ble_eq_true rfl⟩ hl.1 rfl (Nat.le_of_ble_eq_true rfl) d_La_drawn_9 (fun v H locs hZ => ?_)
  refine lv_astore (lv' := [(6, .ref v), (0, .ref (G.1 0)), (1, .int a1), (2, .int a2), (3, .int a3), (4, .int a4), (5, .ref o)]) hx0 hb d_La_drawn_16 hl (by decide) rfl (fun ls hl => ?_)
  refine lv_iconst (v := (1 : Int32)) hx0 hb d_La_drawn_18 (by decide) ?_
  exact zh_ret hx0 hb hr hZ hlocks hQ (by decide) (by decide) d_La_drawn_19
abbrev rm_La_partial : Room := { frames := 8, cells := 1, slots := 6, locals := 139 }
set_option maxHeartbeats 4000000 in
set_option maxRecDepth 100000 in
theorem ch_La_partial (l : Launch) (G : zG) (o : Nat) (a1 a2 a3 : Int32) (M : Mem) (fo : Nat → Int64) (r : Int64) (M2 : Mem) (h : p_ES_partial a1 a2 a3 M = some (some r, M2)) : MetH l G o y_La_partial (Cond.codeWith y_La_partial b_La_partial 6 (some .int) [(0, 11, 14, 13)] :: zws) rm_La_partial [.ref (G.1 0), .int a1, .int a2, .int a3, .ref o] M fo 0 M2 (vp_updL fo 0 r) := by
  refine z_ofH (lv := [(0, .ref (G.1 0)), (1, .int a1), (2, .int a2), (3, .int a3), (4, .ref o)]) (by decide) (Nat.le_of_ble_eq_true rfl) rfl (fun p e R s m args below meth c Q N0 ls F hl hZ => ?_)
  obtain ⟨hx0, hb, hml, hr, hts, hown, hlocks, rfl, hQ, htab, hN, hNG, hNo, hX⟩ := F
  refine lv_aload hx0 hb d_La_partial_0 (lv_at hl 4 rfl) ?_
  refine lv_iconst (v := (0 : Int32)) hx0 hb d_La_partial_2 (by decide) ?_
  refine lv_aload_n hx0 hb d_La_partial_3 rfl (lv_at hl 0 rfl) ?_
  refine lv_iload_n hx0 hb d_La_partial_4 rfl (lv_at hl 1 rfl) ?_
  refine lv_iload_n hx0 hb d_La_partial_5 rfl (lv_at hl 2 rfl) ?_
  refine lv_iload_n hx0 hb d_La_partial_6 rfl (lv_at hl 3 rfl) ?_
  refine zh_run (va_runV (n := 3) (As := [.int a1, .int a2, .int a3]) (rest := [.int 0, .ref o]) ⟨hx0, hb, hml, hown, hts⟩ (c_ES_partial l G a1 a2 a3 M r M2 h s.heap.size) ⟨zcB hts wc_ES_partial wini_ES wm_La_26 (by decide +kernel) rfl rfl ⟨Nat.le_of_ble_eq_true rfl, Nat.le_of_ble_eq_true rfl⟩, hts _ wi_ES_partial, hts _ ws_ES_partial⟩ ⟨zP_blindC, va_recv hZ.2.1.1 hZ.2.2.1 (ci := 6) (q0 := 0) rfl rfl, zP_atH hZ⟩ rfl rfl hl.1 rfl (lv_room (Nat.le_of_ble_eq_true rfl)) d_La_partial_7 ⟨Nat.zero_le _, Nat.zero_le _⟩) hZ (fun H locs hZ => ?_)
  refine zh_last hx0 hb hZ d_La_partial_10 (fun H locs hZ => ?_)
  refine lv_goto (tgt := 18) hx0 hb d_La_partial_11 (by decide) ?_
  refine lv_iconst (v := (0 : Int32)) hx0 hb d_La_partial_18 (by decide) ?_
  exact zh_ret hx0 hb hr hZ hlocks hQ (by decide) (by decide) d_La_partial_19
set_option maxHeartbeats 4000000 in
set_option maxRecDepth 100000 in
theorem chx_La_partial (l : Launch) (hfl : l.flags = pinnedFlags ++ [noTraceFlag]) (G : zG) (o : Nat) (a1 a2 a3 : Int32) (M : Mem) (fo : Nat → Int64) (M2 : Mem) (h : p_ES_partial a1 a2 a3 M = some (none, M2)) : MetH l G o y_La_partial (Cond.codeWith y_La_partial b_La_partial 6 (some .int) [(0, 11, 14, 13)] :: zws) rm_La_partial [.ref (G.1 0), .int a1, .int a2, .int a3, .ref o] M fo 1 M2 fo := by
  refine z_ofH (lv := [(0, .ref (G.1 0)), (1, .int a1), (2, .int a2), (3, .int a3), (4, .ref o)]) (by decide) (Nat.le_of_ble_eq_true rfl) rfl (fun p e R s m args below meth c Q N0 ls F hl hZ => ?_)
  obtain ⟨hx0, hb, hml, hr, hts, hown, hlocks, rfl, hQ, htab, hN, hNG, hNo, hX⟩ := F
  refine lv_aload hx0 hb d_La_partial_0 (lv_at hl 4 rfl) ?_
  refine lv_iconst (v := (0 : Int32)) hx0 hb d_La_partial_2 (by decide) ?_
  refine lv_aload_n hx0 hb d_La_partial_3 rfl (lv_at hl 0 rfl) ?_
  refine lv_iload_n hx0 hb d_La_partial_4 rfl (lv_at hl 1 rfl) ?_
  refine lv_iload_n hx0 hb d_La_partial_5 rfl (lv_at hl 2 rfl) ?_
  refine lv_iload_n hx0 hb d_La_partial_6 rfl (lv_at hl 3 rfl) ?_
  refine zh_catch (n := 3) (C := R_ES) [.int a1, .int a2, .int a3] hx0 hb hml hts hown (cx_ES_partial l hfl G a1 a2 a3 M M2 h) wc_ES_partial wini_ES wi_ES_partial ws_ES_partial wm_La_26 wcl_La_13 (by decide +kernel) rfl hZ hN hNG hNo hX htab (by decide) (by decide) rfl rfl ⟨Nat.le_of_ble_eq_true rfl, Nat.le_of_ble_eq_true rfl⟩ ⟨Nat.le_of_ble_eq_true rfl, Nat.le_of_ble_eq_true rfl⟩ hl.1 rfl (Nat.le_of_ble_eq_true rfl) d_La_partial_7 (fun v H locs hZ => ?_)
  refine lv_astore (lv' := [(5, .ref v), (0, .ref (G.1 0)), (1, .int a1), (2, .int a2), (3, .int a3), (4, .ref o)]) hx0 hb d_La_partial_14 hl (by decide) rfl (fun ls hl => ?_)
  refine lv_iconst (v := (1 : Int32)) hx0 hb d_La_partial_16 (by decide) ?_
  exact zh_ret hx0 hb hr hZ hlocks hQ (by decide) (by decide) d_La_partial_17
abbrev rm_La_worth : Room := { frames := 8, cells := 1, slots := 6, locals := 138 }
set_option maxHeartbeats 4000000 in
set_option maxRecDepth 100000 in
theorem ch_La_worth (l : Launch) (G : zG) (o : Nat) (a1 a2 : Int32) (M : Mem) (fo : Nat → Int64) (r : Int64) (M2 : Mem) (h : p_ES_worth a1 a2 M = some (some r, M2)) : MetH l G o y_La_worth (Cond.codeWith y_La_worth b_La_worth 5 (some .int) [(0, 9, 12, 13)] :: zws) rm_La_worth [.ref (G.1 0), .int a1, .int a2, .ref o] M fo 0 M2 (vp_updL fo 0 r) := by
  refine z_ofH (lv := [(0, .ref (G.1 0)), (1, .int a1), (2, .int a2), (3, .ref o)]) (by decide) (Nat.le_of_ble_eq_true rfl) rfl (fun p e R s m args below meth c Q N0 ls F hl hZ => ?_)
  obtain ⟨hx0, hb, hml, hr, hts, hown, hlocks, rfl, hQ, htab, hN, hNG, hNo, hX⟩ := F
  refine lv_aload_n hx0 hb d_La_worth_0 rfl (lv_at hl 3 rfl) ?_
  refine lv_iconst (v := (0 : Int32)) hx0 hb d_La_worth_1 (by decide) ?_
  refine lv_aload_n hx0 hb d_La_worth_2 rfl (lv_at hl 0 rfl) ?_
  refine lv_iload_n hx0 hb d_La_worth_3 rfl (lv_at hl 1 rfl) ?_
  refine lv_iload_n hx0 hb d_La_worth_4 rfl (lv_at hl 2 rfl) ?_
  refine zh_run (va_runV (n := 2) (As := [.int a1, .int a2]) (rest := [.int 0, .ref o]) ⟨hx0, hb, hml, hown, hts⟩ (c_ES_worth l G a1 a2 M r M2 h s.heap.size) ⟨zcB hts wc_ES_worth wini_ES wm_La_29 (by decide +kernel) rfl rfl ⟨Nat.le_of_ble_eq_true rfl, Nat.le_of_ble_eq_true rfl⟩, hts _ wi_ES_worth, hts _ ws_ES_worth⟩ ⟨zP_blindC, va_recv hZ.2.1.1 hZ.2.2.1 (ci := 6) (q0 := 0) rfl rfl, zP_atH hZ⟩ rfl rfl hl.1 rfl (lv_room (Nat.le_of_ble_eq_true rfl)) d_La_worth_5 ⟨Nat.zero_le _, Nat.zero_le _⟩) hZ (fun H locs hZ => ?_)
  refine zh_last hx0 hb hZ d_La_worth_8 (fun H locs hZ => ?_)
  refine lv_goto (tgt := 16) hx0 hb d_La_worth_9 (by decide) ?_
  refine lv_iconst (v := (0 : Int32)) hx0 hb d_La_worth_16 (by decide) ?_
  exact zh_ret hx0 hb hr hZ hlocks hQ (by decide) (by decide) d_La_worth_17
set_option maxHeartbeats 4000000 in
set_option maxRecDepth 100000 in
theorem chx_La_worth (l : Launch) (hfl : l.flags = pinnedFlags ++ [noTraceFlag]) (G : zG) (o : Nat) (a1 a2 : Int32) (M : Mem) (fo : Nat → Int64) (M2 : Mem) (h : p_ES_worth a1 a2 M = some (none, M2)) : MetH l G o y_La_worth (Cond.codeWith y_La_worth b_La_worth 5 (some .int) [(0, 9, 12, 13)] :: zws) rm_La_worth [.ref (G.1 0), .int a1, .int a2, .ref o] M fo 1 M2 fo := by
  refine z_ofH (lv := [(0, .ref (G.1 0)), (1, .int a1), (2, .int a2), (3, .ref o)]) (by decide) (Nat.le_of_ble_eq_true rfl) rfl (fun p e R s m args below meth c Q N0 ls F hl hZ => ?_)
  obtain ⟨hx0, hb, hml, hr, hts, hown, hlocks, rfl, hQ, htab, hN, hNG, hNo, hX⟩ := F
  refine lv_aload_n hx0 hb d_La_worth_0 rfl (lv_at hl 3 rfl) ?_
  refine lv_iconst (v := (0 : Int32)) hx0 hb d_La_worth_1 (by decide) ?_
  refine lv_aload_n hx0 hb d_La_worth_2 rfl (lv_at hl 0 rfl) ?_
  refine lv_iload_n hx0 hb d_La_worth_3 rfl (lv_at hl 1 rfl) ?_
  refine lv_iload_n hx0 hb d_La_worth_4 rfl (lv_at hl 2 rfl) ?_
  refine zh_catch (n := 2) (C := R_ES) [.int a1, .int a2] hx0 hb hml hts hown (cx_ES_worth l hfl G a1 a2 M M2 h) wc_ES_worth wini_ES wi_ES_worth ws_ES_worth wm_La_29 wcl_La_13 (by decide +kernel) rfl hZ hN hNG hNo hX htab (by decide) (by decide) rfl rfl ⟨Nat.le_of_ble_eq_true rfl, Nat.le_of_ble_eq_true rfl⟩ ⟨Nat.le_of_ble_eq_true rfl, Nat.le_of_ble_eq_true rfl⟩ hl.1 rfl (Nat.le_of_ble_eq_true rfl) d_La_worth_5 (fun v H locs hZ => ?_)
  refine lv_astore (lv' := [(4, .ref v), (0, .ref (G.1 0)), (1, .int a1), (2, .int a2), (3, .ref o)]) hx0 hb d_La_worth_12 hl (by decide) rfl (fun ls hl => ?_)
  refine lv_iconst (v := (1 : Int32)) hx0 hb d_La_worth_14 (by decide) ?_
  exact zh_ret hx0 hb hr hZ hlocks hQ (by decide) (by decide) d_La_worth_15
