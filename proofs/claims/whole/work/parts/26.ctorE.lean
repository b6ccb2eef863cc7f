theorem zI_ofK {A : Nat → Prop} {G : zG} {M : Mem} (hD : va_D A (wlK G M)) : zIK G := fun i j hi hj h => by
  obtain ⟨e1, he1⟩ := wlEK G M i hi
  obtain ⟨e2, he2⟩ := wlEK G M j hj
  exact hD.1 i j _ _ he1 he2 h
theorem zI_ofT {A : Nat → Prop} {G : zG} {M : Mem} (hD : va_D A (wlT G M)) : zIT G := fun i j hi hj h => by
  obtain ⟨e1, he1⟩ := wlET G M i hi
  obtain ⟨e2, he2⟩ := wlET G M j hj
  exact hD.1 i j _ _ he1 he2 h
theorem wlEC (G : zG) (M : Mem) (k : Nat) (hk : k < 37) : ∃ e0 : va_E, (wlC G M)[k]? = some (G.1 k, e0) := by
  match k, hk with
  | 0, _ => exact ⟨_, rfl⟩
  | 1, _ => exact ⟨_, rfl⟩
  | 2, _ => exact ⟨_, rfl⟩
  | 3, _ => exact ⟨_, rfl⟩
  | 4, _ => exact ⟨_, rfl⟩
  | 5, _ => exact ⟨_, rfl⟩
  | 6, _ => exact ⟨_, rfl⟩
  | 7, _ => exact ⟨_, rfl⟩
  | 8, _ => exact ⟨_, rfl⟩
  | 9, _ => exact ⟨_, rfl⟩
  | 10, _ => exact ⟨_, rfl⟩
  | 11, _ => exact ⟨_, rfl⟩
  | 12, _ => exact ⟨_, rfl⟩
  | 13, _ => exact ⟨_, rfl⟩
  | 14, _ => exact ⟨_, rfl⟩
  | 15, _ => exact ⟨_, rfl⟩
  | 16, _ => exact ⟨_, rfl⟩
  | 17, _ => exact ⟨_, rfl⟩
  | 18, _ => exact ⟨_, rfl⟩
  | 19, _ => exact ⟨_, rfl⟩
  | 20, _ => exact ⟨_, rfl⟩
  | 21, _ => exact ⟨_, rfl⟩
  | 22, _ => exact ⟨_, rfl⟩
  | 23, _ => exact ⟨_, rfl⟩
  | 24, _ => exact ⟨_, rfl⟩
  | 25, _ => exact ⟨_, rfl⟩
  | 26, _ => exact ⟨_, rfl⟩
  | 27, _ => exact ⟨_, rfl⟩
  | 28, _ => exact ⟨_, rfl⟩
  | 29, _ => exact ⟨_, rfl⟩
  | 30, _ => exact ⟨_, rfl⟩
  | 31, _ => exact ⟨_, rfl⟩
  | 32, _ => exact ⟨_, rfl⟩
  | 33, _ => exact ⟨_, rfl⟩
  | 34, _ => exact ⟨_, rfl⟩
  | 35, _ => exact ⟨_, rfl⟩
  | 36, _ => exact ⟨_, rfl⟩
  | k + 37, hk => exact absurd hk (by omega)
theorem zI_ofC {A : Nat → Prop} {G : zG} {M : Mem} (hD : va_D A (wlC G M)) : zIC G := fun i j hi hj h => by
  obtain ⟨e1, he1⟩ := wlEC G M i hi
  obtain ⟨e2, he2⟩ := wlEC G M j hj
  exact hD.1 i j _ _ he1 he2 h
def saF : Nat → Int32 := (saM (fun _ _ => 0, fun _ _ => 0)).1 1
abbrev rm_Gr_init : Room := { frames := 2, cells := 1, slots := 6, locals := 61 }
set_option maxHeartbeats 4000000 in
set_option maxRecDepth 100000 in
theorem ct_Gr (l : Launch) (G : zG) (h0 : Nat) (a1 : Int32) : CtM l G y_Gr_init (Cond.code y_Gr_init b_Gr_init 2 none :: zws) rm_Gr_init h0 [.int a1] (.inr (2, [.int 0, .null])) (fun w => ∃ (q7 : Nat), w = [(h0, .inr (2, [.int a1, .ref q7])), (q7, .inl (G.2.1 0, 6, .inl saF))]) 1 6 := by
  refine z_ofN (lv := [(0, .ref h0), (1, .int a1)]) (by decide) rfl (Nat.le_of_ble_eq_true rfl) rfl (fun p e R s m args below meth c Q ls F hl hZ => ?_)
  obtain ⟨hx0, hb, hml, hr, hts, hown, hlocks, rfl, hQ, hin⟩ := F
  refine lv_aload_n hx0 hb d_Gr_init_0 rfl (lv_at hl 0 rfl) ?_
  refine W.objInit hx0 hb hown (hts _ wol_Gr) (hts _ woi) (hts _ woc) rfl (by rw [hml]; exact hl.1) rfl d_Gr_init_1 (Nat.le_of_ble_eq_true rfl) (Nat.le_of_ble_eq_true rfl) ?_
  refine W.eq (g2 := F0 m 4 ls []) rfl ?_
  refine lv_aload_n hx0 hb d_Gr_init_4 rfl (lv_at hl 0 rfl) ?_
  refine lv_bipush (v := (6 : Int32)) hx0 hb d_Gr_init_5 (by decide) ?_
  refine zn_newi (N := 6) hx0 hb hts wa_int hZ (by decide) (by decide) (Nat.le_of_ble_eq_true rfl) (Nat.le_of_ble_eq_true rfl) (Nat.le_of_ble_eq_true rfl) d_Gr_init_7 (fun q7 H hZ => ?_)
  have hZ : ZN G h0 s [(h0, .inr (2, [.int 0, .null])), (q7, .inl (G.2.1 0, 6, .inl (fun _ => 0)))] H _ := hZ
  refine fc_Gr_groupOf hx0 hb hts hown hin hZ rfl rfl rfl d_Gr_init_9 (fun H locs hZ => ?_)
  have hZ : ZN G h0 s [(h0, .inr (2, [.int 0, .ref q7])), (q7, .inl (G.2.1 0, 6, .inl (fun _ => 0)))] H _ := hZ
  refine lv_aload_n hx0 hb d_Gr_init_12 rfl (lv_at hl 0 rfl) ?_
  refine lv_iload_n hx0 hb d_Gr_init_13 rfl (lv_at hl 1 rfl) ?_
  refine fc_Gr_columns hx0 hb hts hown hin hZ rfl rfl rfl d_Gr_init_14 (fun H locs hZ => ?_)
  have hZ : ZN G h0 s [(h0, .inr (2, [.int a1, .ref q7])), (q7, .inl (G.2.1 0, 6, .inl (fun _ => 0)))] H _ := hZ
  refine lv_aload_n hx0 hb d_Gr_init_17 rfl (lv_at hl 0 rfl) ?_
  have hZ : ZN G h0 s (wlK ((fun k => if k = 0 then h0 else q7, G.2) : zG) ((fun k => if k = 0 then (fun _ => a1) else (fun _ => 0), fun _ _ => 0) : Mem)) H _ := hZ
  have hIk := zI_ofK hZ.2.2.1
  refine zn_runK (va_runV (n := 0) (As := []) (rest := []) ⟨hx0, hb, hml, hown, hts⟩ (cK_Gr_standAlone l ((fun k => if k = 0 then h0 else q7, G.2) : zG) ((fun k => if k = 0 then (fun _ => a1) else (fun _ => 0), fun _ _ => 0) : Mem) (saM ((fun k => if k = 0 then (fun _ => a1) else (fun _ => 0), fun _ _ => 0) : Mem)) (sa_run _) H.size) ⟨zcB hts wc_Gr_standAlone wini_Gr wm_Gr_19 (by decide +kernel) rfl rfl ⟨Nat.le_of_ble_eq_true rfl, Nat.le_of_ble_eq_true rfl⟩, hts _ wi_Gr_standAlone, hts _ ws_Gr_standAlone⟩ ⟨zP_blindK, va_recv hZ.1.1.1 hZ.2.1 (ci := 2) (q0 := 0) rfl rfl, fun U hU hW => ⟨rfl, by rw [hU], hIk, zK_warm hW hZ.1.1, by rw [hU]; exact hZ.2.1⟩⟩ rfl rfl hl.1 rfl (lv_room (Nat.le_of_ble_eq_true rfl)) d_Gr_init_18 ⟨Nat.le_of_ble_eq_true rfl, Nat.le_of_ble_eq_true rfl⟩) rfl hIk hZ (fun H locs hZ => ?_)
  have hZ : ZN G h0 s [(h0, .inr (2, [.int a1, .ref q7])), (q7, .inl (G.2.1 0, 6, .inl saF))] H _ := hZ
  exact zn_vret hx0 hb hr hZ hlocks hQ ⟨q7, rfl⟩ (Nat.le_of_ble_eq_true rfl) (Nat.le_of_ble_eq_true rfl) d_Gr_init_21
def clC (a : Int32) : Int32 := if (1 : Int32) < (if a < (6 : Int32) then a else (6 : Int32)) then (if a < (6 : Int32) then a else (6 : Int32)) else (1 : Int32)
def esW (G : zG) (h0 : Nat) (cN : Int32) (q r1 r2 : Nat → Nat) : va_W := [(h0, .inr (6, [.int cN, .ref (q 1), .ref (q 9), .ref (q 17), .ref (q 19), .ref (q 24)])),
  ((q 1), .inr (0, [.ref (q 2), .ref (q 3), .ref (q 4), .ref (q 5), .ref (q 6), .ref (q 7), .ref (q 8), .int (0 : Int32), .int (0 : Int32)])),
  ((q 2), .inl (G.2.1 0, 30, .inl (fun _ => 0))),
  ((q 3), .inl (G.2.1 0, 30, .inl (fun _ => 0))),
  ((q 4), .inl (G.2.1 0, 30, .inl (fun _ => 0))),
  ((q 5), .inl (G.2.1 0, 30, .inl (fun _ => 0))),
  ((q 6), .inl (G.2.1 0, 30, .inl (fun _ => 0))),
  ((q 7), .inl (G.2.1 0, 4, .inl (fun _ => 0))),
  ((q 8), .inl (G.2.1 0, 6, .inl (fun _ => 0))),
  ((q 9), .inr (1, [.ref (q 10), .ref (q 11), .int (0 : Int32)])),
  ((q 10), .inl (G.2.1 0, 6, .inl (fun _ => 0))),
  ((q 11), .inl (G.2.1 3, 5, .inr (.inr (.inr (.inr (fun i => some (r1 i))))))),
  (r1 0, .inl (G.2.1 0, 6, .inl (fun _ => 0))),
  (r1 1, .inl (G.2.1 0, 6, .inl (fun _ => 0))),
  (r1 2, .inl (G.2.1 0, 6, .inl (fun _ => 0))),
  (r1 3, .inl (G.2.1 0, 6, .inl (fun _ => 0))),
  (r1 4, .inl (G.2.1 0, 6, .inl (fun _ => 0))),
  ((q 17), .inr (2, [.int cN, .ref (q 18)])),
  ((q 18), .inl (G.2.1 0, 6, .inl saF)),
  ((q 19), .inr (4, [.ref (q 1), .ref (q 9), .ref (q 17), .ref (q 22), .ref (q 20), .ref (q 21)])),
  ((q 20), .inl (G.2.1 0, 6, .inl (fun _ => 0))),
  ((q 21), .inl (G.2.1 1, 6, .inr (.inl (fun _ => 0)))),
  ((q 22), .inr (3, [.ref (q 17), .ref (q 23), .int (0 : Int32), .int (0 : Int32)])),
  ((q 23), .inl (G.2.1 0, 6, .inl (fun _ => 0))),
  ((q 24), .inr (5, [.int cN, .ref (q 1), .ref (q 9), .ref (q 25), .ref (q 26), .ref (q 33), .ref (q 34), .ref (q 35), .ref (q 36), .int (1000000 : Int32), .int (0 : Int32)])),
  ((q 25), .inl (G.2.1 2, 6, .inl (fun _ => 0))),
  ((q 26), .inl (G.2.1 3, 6, .inr (.inr (.inr (.inr (fun i => some (r2 i))))))),
  (r2 0, .inl (G.2.1 0, 6, .inl (fun _ => 0))),
  (r2 1, .inl (G.2.1 0, 6, .inl (fun _ => 0))),
  (r2 2, .inl (G.2.1 0, 6, .inl (fun _ => 0))),
  (r2 3, .inl (G.2.1 0, 6, .inl (fun _ => 0))),
  (r2 4, .inl (G.2.1 0, 6, .inl (fun _ => 0))),
  (r2 5, .inl (G.2.1 0, 6, .inl (fun _ => 0))),
  ((q 33), .inl (G.2.1 0, 6, .inl (fun _ => 0))),
  ((q 34), .inl (G.2.1 0, 6, .inl (fun _ => 0))),
  ((q 35), .inl (G.2.1 0, 6, .inl (fun _ => 0))),
  ((q 36), .inl (G.2.1 0, 6, .inl (fun _ => 0)))]
abbrev rm_ES_init : Room := { frames := 3, cells := 36, slots := 332, locals := 82 }
set_option maxHeartbeats 4000000 in
set_option maxRecDepth 100000 in
theorem ct_ES (l : Launch) (G : zG) (h0 : Nat) (a1 : Int32) : CtM l G y_ES_init (Cond.code y_ES_init b_ES_init 2 none :: zws) rm_ES_init h0 [.int a1] (.inr (6, [.int 0, .null, .null, .null, .null, .null])) (fun w => ∃ (q r1 r2 : Nat → Nat), w = esW G h0 (clC a1) q r1 r2) 36 332 := by
  refine z_ofN (lv := [(0, .ref h0), (1, .int a1)]) (by decide) rfl (Nat.le_of_ble_eq_true rfl) rfl (fun p e R s m args below meth c Q ls F hl hZ => ?_)
  obtain ⟨hx0, hb, hml, hr, hts, hown, hlocks, rfl, hQ, hin⟩ := F
  refine lv_aload_n hx0 hb d_ES_init_0 rfl (lv_at hl 0 rfl) ?_
  refine W.objInit hx0 hb hown (hts _ wol_ES) (hts _ woi) (hts _ woc) rfl (by rw [hml]; exact hl.1) rfl d_ES_init_1 (Nat.le_of_ble_eq_true rfl) (Nat.le_of_ble_eq_true rfl) ?_
  refine W.eq (g2 := F0 m 4 ls []) rfl ?_
  refine lv_aload_n hx0 hb d_ES_init_4 rfl (lv_at hl 0 rfl) ?_
  refine lv_iconst (v := (1 : Int32)) hx0 hb d_ES_init_5 (by decide) ?_
  refine lv_bipush (v := (6 : Int32)) hx0 hb d_ES_init_6 (by decide) ?_
  refine lv_iload_n hx0 hb d_ES_init_8 rfl (lv_at hl 1 rfl) ?_
  refine m_min_ES hx0 hb hml hts hown hl ⟨Nat.le_of_ble_eq_true rfl, Nat.le_of_ble_eq_true rfl⟩ (Nat.le_of_ble_eq_true rfl) d_ES_init_9 ?_
  refine m_max_ES hx0 hb hml hts hown hl ⟨Nat.le_of_ble_eq_true rfl, Nat.le_of_ble_eq_true rfl⟩ (Nat.le_of_ble_eq_true rfl) d_ES_init_12 ?_
  refine fc_ES_columns hx0 hb hts hown hin hZ rfl rfl rfl d_ES_init_15 (fun H locs hZ => ?_)
  have hZ : ZN G h0 s [(h0, .inr (6, [.int (clC a1), .null, .null, .null, .null, .null]))] H _ := hZ
  refine lv_aload_n hx0 hb d_ES_init_18 rfl (lv_at hl 0 rfl) ?_
  refine nw_ES_Ln hx0 hb hts hown hZ (Nat.le_of_ble_eq_true rfl) (Nat.le_of_ble_eq_true rfl) d_ES_init_19 (fun q19 H hZ => ?_)
  refine lv_dup hx0 hb d_ES_init_22 rfl ?_
  refine zn_join (X := [(h0, .inr (6, [.int (clC a1), .null, .null, .null, .null, .null]))]) (va_runIN (n := 0) (As := []) (rest := [.ref q19, .ref h0]) ⟨hx0, hb, hml, hown, hts⟩ (ct_Ln l G q19  H.size) ⟨(zcNc hts wc_Ln_init wini_Ln hZ.1.2.2.1 (by decide +kernel) rfl rfl ⟨Nat.le_of_ble_eq_true rfl, Nat.le_of_ble_eq_true rfl⟩), rfl, hts _ wi_Ln_init⟩ ⟨zPN_blind, zPN_at (X := [(h0, .inr (6, [.int (clC a1), .null, .null, .null, .null, .null]))]) hZ⟩ rfl rfl hl.1 rfl (lv_room (Nat.le_of_ble_eq_true rfl)) d_ES_init_23 ⟨Nat.le_of_ble_eq_true rfl, Nat.le_of_ble_eq_true rfl⟩) hZ (fun w9 H locs hw9 hZ => ?_)
  obtain ⟨q7_23, q15_23, q23_23, q31_23, q39_23, q46_23, q54_23, rfl⟩ := hw9
  have hZ : ZN G h0 s [(h0, .inr (6, [.int (clC a1), .null, .null, .null, .null, .null])), (q19, .inr (0, [.ref q7_23, .ref q15_23, .ref q23_23, .ref q31_23, .ref q39_23, .ref q46_23, .ref q54_23, .int (0 : Int32), .int (0 : Int32)])), (q7_23, .inl (G.2.1 0, 30, .inl (fun _ => 0))), (q15_23, .inl (G.2.1 0, 30, .inl (fun _ => 0))), (q23_23, .inl (G.2.1 0, 30, .inl (fun _ => 0))), (q31_23, .inl (G.2.1 0, 30, .inl (fun _ => 0))), (q39_23, .inl (G.2.1 0, 30, .inl (fun _ => 0))), (q46_23, .inl (G.2.1 0, 4, .inl (fun _ => 0))), (q54_23, .inl (G.2.1 0, 6, .inl (fun _ => 0)))] H _ := hZ
  refine fc_ES_learner hx0 hb hts hown hin hZ rfl rfl rfl d_ES_init_26 (fun H locs hZ => ?_)
  have hZ : ZN G h0 s [(h0, .inr (6, [.int (clC a1), .ref q19, .null, .null, .null, .null])), (q19, .inr (0, [.ref q7_23, .ref q15_23, .ref q23_23, .ref q31_23, .ref q39_23, .ref q46_23, .ref q54_23, .int (0 : Int32), .int (0 : Int32)])), (q7_23, .inl (G.2.1 0, 30, .inl (fun _ => 0))), (q15_23, .inl (G.2.1 0, 30, .inl (fun _ => 0))), (q23_23, .inl (G.2.1 0, 30, .inl (fun _ => 0))), (q31_23, .inl (G.2.1 0, 30, .inl (fun _ => 0))), (q39_23, .inl (G.2.1 0, 30, .inl (fun _ => 0))), (q46_23, .inl (G.2.1 0, 4, .inl (fun _ => 0))), (q54_23, .inl (G.2.1 0, 6, .inl (fun _ => 0)))] H _ := hZ
  refine lv_aload_n hx0 hb d_ES_init_29 rfl (lv_at hl 0 rfl) ?_
  refine nw_ES_Rw hx0 hb hts hown hZ (Nat.le_of_ble_eq_true rfl) (Nat.le_of_ble_eq_true rfl) d_ES_init_30 (fun q30 H hZ => ?_)
  refine lv_dup hx0 hb d_ES_init_33 rfl ?_
  refine zn_join (X := [(h0, .inr (6, [.int (clC a1), .ref q19, .null, .null, .null, .null])), (q19, .inr (0, [.ref q7_23, .ref q15_23, .ref q23_23, .ref q31_23, .ref q39_23, .ref q46_23, .ref q54_23, .int (0 : Int32), .int (0 : Int32)])), (q7_23, .inl (G.2.1 0, 30, .inl (fun _ => 0))), (q15_23, .inl (G.2.1 0, 30, .inl (fun _ => 0))), (q23_23, .inl (G.2.1 0, 30, .inl (fun _ => 0))), (q31_23, .inl (G.2.1 0, 30, .inl (fun _ => 0))), (q39_23, .inl (G.2.1 0, 30, .inl (fun _ => 0))), (q46_23, .inl (G.2.1 0, 4, .inl (fun _ => 0))), (q54_23, .inl (G.2.1 0, 6, .inl (fun _ => 0)))]) (va_runIN (n := 0) (As := []) (rest := [.ref q30, .ref h0]) ⟨hx0, hb, hml, hown, hts⟩ (ct_Rw l G q30  H.size) ⟨(zcNc hts wc_Rw_init wini_Rw hZ.1.2.2.2 (by decide +kernel) rfl rfl ⟨Nat.le_of_ble_eq_true rfl, Nat.le_of_ble_eq_true rfl⟩), rfl, hts _ wi_Rw_init⟩ ⟨zPN_blind, zPN_at (X := [(h0, .inr (6, [.int (clC a1), .ref q19, .null, .null, .null, .null])), (q19, .inr (0, [.ref q7_23, .ref q15_23, .ref q23_23, .ref q31_23, .ref q39_23, .ref q46_23, .ref q54_23, .int (0 : Int32), .int (0 : Int32)])), (q7_23, .inl (G.2.1 0, 30, .inl (fun _ => 0))), (q15_23, .inl (G.2.1 0, 30, .inl (fun _ => 0))), (q23_23, .inl (G.2.1 0, 30, .inl (fun _ => 0))), (q31_23, .inl (G.2.1 0, 30, .inl (fun _ => 0))), (q39_23, .inl (G.2.1 0, 30, .inl (fun _ => 0))), (q46_23, .inl (G.2.1 0, 4, .inl (fun _ => 0))), (q54_23, .inl (G.2.1 0, 6, .inl (fun _ => 0)))]) hZ⟩ rfl rfl hl.1 rfl (lv_room (Nat.le_of_ble_eq_true rfl)) d_ES_init_34 ⟨Nat.le_of_ble_eq_true rfl, Nat.le_of_ble_eq_true rfl⟩) hZ (fun w9 H locs hw9 hZ => ?_)
  obtain ⟨q7_34, q16_34, r16_34, rfl⟩ := hw9
  have hZ : ZN G h0 s [(h0, .inr (6, [.int (clC a1), .ref q19, .null, .null, .null, .null])), (q19, .inr (0, [.ref q7_23, .ref q15_23, .ref q23_23, .ref q31_23, .ref q39_23, .ref q46_23, .ref q54_23, .int (0 : Int32), .int (0 : Int32)])), (q7_23, .inl (G.2.1 0, 30, .inl (fun _ => 0))), (q15_23, .inl (G.2.1 0, 30, .inl (fun _ => 0))), (q23_23, .inl (G.2.1 0, 30, .inl (fun _ => 0))), (q31_23, .inl (G.2.1 0, 30, .inl (fun _ => 0))), (q39_23, .inl (G.2.1 0, 30, .inl (fun _ => 0))), (q46_23, .inl (G.2.1 0, 4, .inl (fun _ => 0))), (q54_23, .inl (G.2.1 0, 6, .inl (fun _ => 0))), (q30, .inr (1, [.ref q7_34, .ref q16_34, .int (0 : Int32)])), (q7_34, .inl (G.2.1 0, 6, .inl (fun _ => 0))), (q16_34, .inl (G.2.1 3, 5, .inr (.inr (.inr (.inr (fun i => some (r16_34 i))))))), (r16_34 0, .inl (G.2.1 0, 6, .inl (fun _ => 0))), (r16_34 1, .inl (G.2.1 0, 6, .inl (fun _ => 0))), (r16_34 2, .inl (G.2.1 0, 6, .inl (fun _ => 0))), (r16_34 3, .inl (G.2.1 0, 6, .inl (fun _ => 0))), (r16_34 4, .inl (G.2.1 0, 6, .inl (fun _ => 0)))] H _ := hZ
  refine fc_ES_rows hx0 hb hts hown hin hZ rfl rfl rfl d_ES_init_37 (fun H locs hZ => ?_)
  have hZ : ZN G h0 s [(h0, .inr (6, [.int (clC a1), .ref q19, .ref q30, .null, .null, .null])), (q19, .inr (0, [.ref q7_23, .ref q15_23, .ref q23_23, .ref q31_23, .ref q39_23, .ref q46_23, .ref q54_23, .int (0 : Int32), .int (0 : Int32)])), (q7_23, .inl (G.2.1 0, 30, .inl (fun _ => 0))), (q15_23, .inl (G.2.1 0, 30, .inl (fun _ => 0))), (q23_23, .inl (G.2.1 0, 30, .inl (fun _ => 0))), (q31_23, .inl (G.2.1 0, 30, .inl (fun _ => 0))), (q39_23, .inl (G.2.1 0, 30, .inl (fun _ => 0))), (q46_23, .inl (G.2.1 0, 4, .inl (fun _ => 0))), (q54_23, .inl (G.2.1 0, 6, .inl (fun _ => 0))), (q30, .inr (1, [.ref q7_34, .ref q16_34, .int (0 : Int32)])), (q7_34, .inl (G.2.1 0, 6, .inl (fun _ => 0))), (q16_34, .inl (G.2.1 3, 5, .inr (.inr (.inr (.inr (fun i => some (r16_34 i))))))), (r16_34 0, .inl (G.2.1 0, 6, .inl (fun _ => 0))), (r16_34 1, .inl (G.2.1 0, 6, .inl (fun _ => 0))), (r16_34 2, .inl (G.2.1 0, 6, .inl (fun _ => 0))), (r16_34 3, .inl (G.2.1 0, 6, .inl (fun _ => 0))), (r16_34 4, .inl (G.2.1 0, 6, .inl (fun _ => 0)))] H _ := hZ
  refine lv_aload_n hx0 hb d_ES_init_40 rfl (lv_at hl 0 rfl) ?_
  refine nw_ES_Gr hx0 hb hts hown hZ (Nat.le_of_ble_eq_true rfl) (Nat.le_of_ble_eq_true rfl) d_ES_init_41 (fun q41 H hZ => ?_)
  refine lv_dup hx0 hb d_ES_init_44 rfl ?_
  refine lv_aload_n hx0 hb d_ES_init_45 rfl (lv_at hl 0 rfl) ?_
  refine fgc_ES_columns hx0 hb hts hown hZ rfl d_ES_init_46 ?_
  refine zn_join (X := [(h0, .inr (6, [.int (clC a1), .ref q19, .ref q30, .null, .null, .null])), (q19, .inr (0, [.ref q7_23, .ref q15_23, .ref q23_23, .ref q31_23, .ref q39_23, .ref q46_23, .ref q54_23, .int (0 : Int32), .int (0 : Int32)])), (q7_23, .inl (G.2.1 0, 30, .inl (fun _ => 0))), (q15_23, .inl (G.2.1 0, 30, .inl (fun _ => 0))), (q23_23, .inl (G.2.1 0, 30, .inl (fun _ => 0))), (q31_23, .inl (G.2.1 0, 30, .inl (fun _ => 0))), (q39_23, .inl (G.2.1 0, 30, .inl (fun _ => 0))), (q46_23, .inl (G.2.1 0, 4, .inl (fun _ => 0))), (q54_23, .inl (G.2.1 0, 6, .inl (fun _ => 0))), (q30, .inr (1, [.ref q7_34, .ref q16_34, .int (0 : Int32)])), (q7_34, .inl (G.2.1 0, 6, .inl (fun _ => 0))), (q16_34, .inl (G.2.1 3, 5, .inr (.inr (.inr (.inr (fun i => some (r16_34 i))))))), (r16_34 0, .inl (G.2.1 0, 6, .inl (fun _ => 0))), (r16_34 1, .inl (G.2.1 0, 6, .inl (fun _ => 0))), (r16_34 2, .inl (G.2.1 0, 6, .inl (fun _ => 0))), (r16_34 3, .inl (G.2.1 0, 6, .inl (fun _ => 0))), (r16_34 4, .inl (G.2.1 0, 6, .inl (fun _ => 0)))]) (va_runI (n := 1) (As := [.int (clC a1)]) (rest := [.ref q41, .ref h0]) ⟨hx0, hb, hml, hown, hts⟩ (ct_Gr l G q41 (clC a1) H.size) ⟨(zcBc hts wc_Gr_init wini_Gr wm_ES_38 (by decide +kernel) rfl rfl ⟨Nat.le_of_ble_eq_true rfl, Nat.le_of_ble_eq_true rfl⟩), rfl, hts _ wi_Gr_init⟩ ⟨zPN_blind, zPN_at (X := [(h0, .inr (6, [.int (clC a1), .ref q19, .ref q30, .null, .null, .null])), (q19, .inr (0, [.ref q7_23, .ref q15_23, .ref q23_23, .ref q31_23, .ref q39_23, .ref q46_23, .ref q54_23, .int (0 : Int32), .int (0 : Int32)])), (q7_23, .inl (G.2.1 0, 30, .inl (fun _ => 0))), (q15_23, .inl (G.2.1 0, 30, .inl (fun _ => 0))), (q23_23, .inl (G.2.1 0, 30, .inl (fun _ => 0))), (q31_23, .inl (G.2.1 0, 30, .inl (fun _ => 0))), (q39_23, .inl (G.2.1 0, 30, .inl (fun _ => 0))), (q46_23, .inl (G.2.1 0, 4, .inl (fun _ => 0))), (q54_23, .inl (G.2.1 0, 6, .inl (fun _ => 0))), (q30, .inr (1, [.ref q7_34, .ref q16_34, .int (0 : Int32)])), (q7_34, .inl (G.2.1 0, 6, .inl (fun _ => 0))), (q16_34, .inl (G.2.1 3, 5, .inr (.inr (.inr (.inr (fun i => some (r16_34 i))))))), (r16_34 0, .inl (G.2.1 0, 6, .inl (fun _ => 0))), (r16_34 1, .inl (G.2.1 0, 6, .inl (fun _ => 0))), (r16_34 2, .inl (G.2.1 0, 6, .inl (fun _ => 0))), (r16_34 3, .inl (G.2.1 0, 6, .inl (fun _ => 0))), (r16_34 4, .inl (G.2.1 0, 6, .inl (fun _ => 0)))]) hZ⟩ rfl rfl hl.1 rfl (lv_room (Nat.le_of_ble_eq_true rfl)) d_ES_init_49 ⟨Nat.le_of_ble_eq_true rfl, Nat.le_of_ble_eq_true rfl⟩) hZ (fun w9 H locs hw9 hZ => ?_)
  obtain ⟨q7_49, rfl⟩ := hw9
  have hZ : ZN G h0 s [(h0, .inr (6, [.int (clC a1), .ref q19, .ref q30, .null, .null, .null])), (q19, .inr (0, [.ref q7_23, .ref q15_23, .ref q23_23, .ref q31_23, .ref q39_23, .ref q46_23, .ref q54_23, .int (0 : Int32), .int (0 : Int32)])), (q7_23, .inl (G.2.1 0, 30, .inl (fun _ => 0))), (q15_23, .inl (G.2.1 0, 30, .inl (fun _ => 0))), (q23_23, .inl (G.2.1 0, 30, .inl (fun _ => 0))), (q31_23, .inl (G.2.1 0, 30, .inl (fun _ => 0))), (q39_23, .inl (G.2.1 0, 30, .inl (fun _ => 0))), (q46_23, .inl (G.2.1 0, 4, .inl (fun _ => 0))), (q54_23, .inl (G.2.1 0, 6, .inl (fun _ => 0))), (q30, .inr (1, [.ref q7_34, .ref q16_34, .int (0 : Int32)])), (q7_34, .inl (G.2.1 0, 6, .inl (fun _ => 0))), (q16_34, .inl (G.2.1 3, 5, .inr (.inr (.inr (.inr (fun i => some (r16_34 i))))))), (r16_34 0, .inl (G.2.1 0, 6, .inl (fun _ => 0))), (r16_34 1, .inl (G.2.1 0, 6, .inl (fun _ => 0))), (r16_34 2, .inl (G.2.1 0, 6, .inl (fun _ => 0))), (r16_34 3, .inl (G.2.1 0, 6, .inl (fun _ => 0))), (r16_34 4, .inl (G.2.1 0, 6, .inl (fun _ => 0))), (q41, .inr (2, [.int (clC a1), .ref q7_49])), (q7_49, .inl (G.2.1 0, 6, .inl saF))] H _ := hZ
  refine fc_ES_groups hx0 hb hts hown hin hZ rfl rfl rfl d_ES_init_52 (fun H locs hZ => ?_)
  have hZ : ZN G h0 s [(h0, .inr (6, [.int (clC a1), .ref q19, .ref q30, .ref q41, .null, .null])), (q19, .inr (0, [.ref q7_23, .ref q15_23, .ref q23_23, .ref q31_23, .ref q39_23, .ref q46_23, .ref q54_23, .int (0 : Int32), .int (0 : Int32)])), (q7_23, .inl (G.2.1 0, 30, .inl (fun _ => 0))), (q15_23, .inl (G.2.1 0, 30, .inl (fun _ => 0))), (q23_23, .inl (G.2.1 0, 30, .inl (fun _ => 0))), (q31_23, .inl (G.2.1 0, 30, .inl (fun _ => 0))), (q39_23, .inl (G.2.1 0, 30, .inl (fun _ => 0))), (q46_23, .inl (G.2.1 0, 4, .inl (fun _ => 0))), (q54_23, .inl (G.2.1 0, 6, .inl (fun _ => 0))), (q30, .inr (1, [.ref q7_34, .ref q16_34, .int (0 : Int32)])), (q7_34, .inl (G.2.1 0, 6, .inl (fun _ => 0))), (q16_34, .inl (G.2.1 3, 5, .inr (.inr (.inr (.inr (fun i => some (r16_34 i))))))), (r16_34 0, .inl (G.2.1 0, 6, .inl (fun _ => 0))), (r16_34 1, .inl (G.2.1 0, 6, .inl (fun _ => 0))), (r16_34 2, .inl (G.2.1 0, 6, .inl (fun _ => 0))), (r16_34 3, .inl (G.2.1 0, 6, .inl (fun _ => 0))), (r16_34 4, .inl (G.2.1 0, 6, .inl (fun _ => 0))), (q41, .inr (2, [.int (clC a1), .ref q7_49])), (q7_49, .inl (G.2.1 0, 6, .inl saF))] H _ := hZ
  refine lv_aload_n hx0 hb d_ES_init_55 rfl (lv_at hl 0 rfl) ?_
  refine nw_ES_Me hx0 hb hts hown hZ (Nat.le_of_ble_eq_true rfl) (Nat.le_of_ble_eq_true rfl) d_ES_init_56 (fun q56 H hZ => ?_)
  refine lv_dup hx0 hb d_ES_init_59 rfl ?_
  refine lv_aload_n hx0 hb d_ES_init_60 rfl (lv_at hl 0 rfl) ?_
  refine fgc_ES_learner hx0 hb hts hown hZ rfl d_ES_init_61 ?_
  refine lv_aload_n hx0 hb d_ES_init_64 rfl (lv_at hl 0 rfl) ?_
  refine fgc_ES_rows hx0 hb hts hown hZ rfl d_ES_init_65 ?_
  refine lv_aload_n hx0 hb d_ES_init_68 rfl (lv_at hl 0 rfl) ?_
  refine fgc_ES_groups hx0 hb hts hown hZ rfl d_ES_init_69 ?_
  refine zn_join (X := [(h0, .inr (6, [.int (clC a1), .ref q19, .ref q30, .ref q41, .null, .null])), (q19, .inr (0, [.ref q7_23, .ref q15_23, .ref q23_23, .ref q31_23, .ref q39_23, .ref q46_23, .ref q54_23, .int (0 : Int32), .int (0 : Int32)])), (q7_23, .inl (G.2.1 0, 30, .inl (fun _ => 0))), (q15_23, .inl (G.2.1 0, 30, .inl (fun _ => 0))), (q23_23, .inl (G.2.1 0, 30, .inl (fun _ => 0))), (q31_23, .inl (G.2.1 0, 30, .inl (fun _ => 0))), (q39_23, .inl (G.2.1 0, 30, .inl (fun _ => 0))), (q46_23, .inl (G.2.1 0, 4, .inl (fun _ => 0))), (q54_23, .inl (G.2.1 0, 6, .inl (fun _ => 0))), (q30, .inr (1, [.ref q7_34, .ref q16_34, .int (0 : Int32)])), (q7_34, .inl (G.2.1 0, 6, .inl (fun _ => 0))), (q16_34, .inl (G.2.1 3, 5, .inr (.inr (.inr (.inr (fun i => some (r16_34 i))))))), (r16_34 0, .inl (G.2.1 0, 6, .inl (fun _ => 0))), (r16_34 1, .inl (G.2.1 0, 6, .inl (fun _ => 0))), (r16_34 2, .inl (G.2.1 0, 6, .inl (fun _ => 0))), (r16_34 3, .inl (G.2.1 0, 6, .inl (fun _ => 0))), (r16_34 4, .inl (G.2.1 0, 6, .inl (fun _ => 0))), (q41, .inr (2, [.int (clC a1), .ref q7_49])), (q7_49, .inl (G.2.1 0, 6, .inl saF))]) (va_runI (n := 3) (As := [.ref q19, .ref q30, .ref q41]) (rest := [.ref q56, .ref h0]) ⟨hx0, hb, hml, hown, hts⟩ (ct_Me l G q56 q19 q30 q41 H.size) ⟨(zcBc hts wc_Me_init wini_Me wm_ES_47 (by decide +kernel) rfl rfl ⟨Nat.le_of_ble_eq_true rfl, Nat.le_of_ble_eq_true rfl⟩), rfl, hts _ wi_Me_init⟩ ⟨zPN_blind, zPN_at (X := [(h0, .inr (6, [.int (clC a1), .ref q19, .ref q30, .ref q41, .null, .null])), (q19, .inr (0, [.ref q7_23, .ref q15_23, .ref q23_23, .ref q31_23, .ref q39_23, .ref q46_23, .ref q54_23, .int (0 : Int32), .int (0 : Int32)])), (q7_23, .inl (G.2.1 0, 30, .inl (fun _ => 0))), (q15_23, .inl (G.2.1 0, 30, .inl (fun _ => 0))), (q23_23, .inl (G.2.1 0, 30, .inl (fun _ => 0))), (q31_23, .inl (G.2.1 0, 30, .inl (fun _ => 0))), (q39_23, .inl (G.2.1 0, 30, .inl (fun _ => 0))), (q46_23, .inl (G.2.1 0, 4, .inl (fun _ => 0))), (q54_23, .inl (G.2.1 0, 6, .inl (fun _ => 0))), (q30, .inr (1, [.ref q7_34, .ref q16_34, .int (0 : Int32)])), (q7_34, .inl (G.2.1 0, 6, .inl (fun _ => 0))), (q16_34, .inl (G.2.1 3, 5, .inr (.inr (.inr (.inr (fun i => some (r16_34 i))))))), (r16_34 0, .inl (G.2.1 0, 6, .inl (fun _ => 0))), (r16_34 1, .inl (G.2.1 0, 6, .inl (fun _ => 0))), (r16_34 2, .inl (G.2.1 0, 6, .inl (fun _ => 0))), (r16_34 3, .inl (G.2.1 0, 6, .inl (fun _ => 0))), (r16_34 4, .inl (G.2.1 0, 6, .inl (fun _ => 0))), (q41, .inr (2, [.int (clC a1), .ref q7_49])), (q7_49, .inl (G.2.1 0, 6, .inl saF))]) hZ⟩ rfl rfl hl.1 rfl (lv_room (Nat.le_of_ble_eq_true rfl)) d_ES_init_72 ⟨Nat.le_of_ble_eq_true rfl, Nat.le_of_ble_eq_true rfl⟩) hZ (fun w9 H locs hw9 hZ => ?_)
  obtain ⟨q7_72, q15_72, q36_72, q7_41_72, rfl⟩ := hw9
  have hZ : ZN G h0 s [(h0, .inr (6, [.int (clC a1), .ref q19, .ref q30, .ref q41, .null, .null])), (q19, .inr (0, [.ref q7_23, .ref q15_23, .ref q23_23, .ref q31_23, .ref q39_23, .ref q46_23, .ref q54_23, .int (0 : Int32), .int (0 : Int32)])), (q7_23, .inl (G.2.1 0, 30, .inl (fun _ => 0))), (q15_23, .inl (G.2.1 0, 30, .inl (fun _ => 0))), (q23_23, .inl (G.2.1 0, 30, .inl (fun _ => 0))), (q31_23, .inl (G.2.1 0, 30, .inl (fun _ => 0))), (q39_23, .inl (G.2.1 0, 30, .inl (fun _ => 0))), (q46_23, .inl (G.2.1 0, 4, .inl (fun _ => 0))), (q54_23, .inl (G.2.1 0, 6, .inl (fun _ => 0))), (q30, .inr (1, [.ref q7_34, .ref q16_34, .int (0 : Int32)])), (q7_34, .inl (G.2.1 0, 6, .inl (fun _ => 0))), (q16_34, .inl (G.2.1 3, 5, .inr (.inr (.inr (.inr (fun i => some (r16_34 i))))))), (r16_34 0, .inl (G.2.1 0, 6, .inl (fun _ => 0))), (r16_34 1, .inl (G.2.1 0, 6, .inl (fun _ => 0))), (r16_34 2, .inl (G.2.1 0, 6, .inl (fun _ => 0))), (r16_34 3, .inl (G.2.1 0, 6, .inl (fun _ => 0))), (r16_34 4, .inl (G.2.1 0, 6, .inl (fun _ => 0))), (q41, .inr (2, [.int (clC a1), .ref q7_49])), (q7_49, .inl (G.2.1 0, 6, .inl saF)), (q56, .inr (4, [.ref q19, .ref q30, .ref q41, .ref q36_72, .ref q7_72, .ref q15_72])), (q7_72, .inl (G.2.1 0, 6, .inl (fun _ => 0))), (q15_72, .inl (G.2.1 1, 6, .inr (.inl (fun _ => 0)))), (q36_72, .inr (3, [.ref q41, .ref q7_41_72, .int (0 : Int32), .int (0 : Int32)])), (q7_41_72, .inl (G.2.1 0, 6, .inl (fun _ => 0)))] H _ := hZ
  refine fc_ES_means hx0 hb hts hown hin hZ rfl rfl rfl d_ES_init_75 (fun H locs hZ => ?_)
  have hZ : ZN G h0 s [(h0, .inr (6, [.int (clC a1), .ref q19, .ref q30, .ref q41, .ref q56, .null])), (q19, .inr (0, [.ref q7_23, .ref q15_23, .ref q23_23, .ref q31_23, .ref q39_23, .ref q46_23, .ref q54_23, .int (0 : Int32), .int (0 : Int32)])), (q7_23, .inl (G.2.1 0, 30, .inl (fun _ => 0))), (q15_23, .inl (G.2.1 0, 30, .inl (fun _ => 0))), (q23_23, .inl (G.2.1 0, 30, .inl (fun _ => 0))), (q31_23, .inl (G.2.1 0, 30, .inl (fun _ => 0))), (q39_23, .inl (G.2.1 0, 30, .inl (fun _ => 0))), (q46_23, .inl (G.2.1 0, 4, .inl (fun _ => 0))), (q54_23, .inl (G.2.1 0, 6, .inl (fun _ => 0))), (q30, .inr (1, [.ref q7_34, .ref q16_34, .int (0 : Int32)])), (q7_34, .inl (G.2.1 0, 6, .inl (fun _ => 0))), (q16_34, .inl (G.2.1 3, 5, .inr (.inr (.inr (.inr (fun i => some (r16_34 i))))))), (r16_34 0, .inl (G.2.1 0, 6, .inl (fun _ => 0))), (r16_34 1, .inl (G.2.1 0, 6, .inl (fun _ => 0))), (r16_34 2, .inl (G.2.1 0, 6, .inl (fun _ => 0))), (r16_34 3, .inl (G.2.1 0, 6, .inl (fun _ => 0))), (r16_34 4, .inl (G.2.1 0, 6, .inl (fun _ => 0))), (q41, .inr (2, [.int (clC a1), .ref q7_49])), (q7_49, .inl (G.2.1 0, 6, .inl saF)), (q56, .inr (4, [.ref q19, .ref q30, .ref q41, .ref q36_72, .ref q7_72, .ref q15_72])), (q7_72, .inl (G.2.1 0, 6, .inl (fun _ => 0))), (q15_72, .inl (G.2.1 1, 6, .inr (.inl (fun _ => 0)))), (q36_72, .inr (3, [.ref q41, .ref q7_41_72, .int (0 : Int32), .int (0 : Int32)])), (q7_41_72, .inl (G.2.1 0, 6, .inl (fun _ => 0)))] H _ := hZ
  refine lv_aload_n hx0 hb d_ES_init_78 rfl (lv_at hl 0 rfl) ?_
  refine nw_ES_Se hx0 hb hts hown hZ (Nat.le_of_ble_eq_true rfl) (Nat.le_of_ble_eq_true rfl) d_ES_init_79 (fun q79 H hZ => ?_)
  refine lv_dup hx0 hb d_ES_init_82 rfl ?_
  refine lv_aload_n hx0 hb d_ES_init_83 rfl (lv_at hl 0 rfl) ?_
  refine fgc_ES_columns hx0 hb hts hown hZ rfl d_ES_init_84 ?_
  refine lv_aload_n hx0 hb d_ES_init_87 rfl (lv_at hl 0 rfl) ?_
  refine fgc_ES_learner hx0 hb hts hown hZ rfl d_ES_init_88 ?_
  refine lv_aload_n hx0 hb d_ES_init_91 rfl (lv_at hl 0 rfl) ?_
  refine fgc_ES_rows hx0 hb hts hown hZ rfl d_ES_init_92 ?_
  refine zn_join (X := [(h0, .inr (6, [.int (clC a1), .ref q19, .ref q30, .ref q41, .ref q56, .null])), (q19, .inr (0, [.ref q7_23, .ref q15_23, .ref q23_23, .ref q31_23, .ref q39_23, .ref q46_23, .ref q54_23, .int (0 : Int32), .int (0 : Int32)])), (q7_23, .inl (G.2.1 0, 30, .inl (fun _ => 0))), (q15_23, .inl (G.2.1 0, 30, .inl (fun _ => 0))), (q23_23, .inl (G.2.1 0, 30, .inl (fun _ => 0))), (q31_23, .inl (G.2.1 0, 30, .inl (fun _ => 0))), (q39_23, .inl (G.2.1 0, 30, .inl (fun _ => 0))), (q46_23, .inl (G.2.1 0, 4, .inl (fun _ => 0))), (q54_23, .inl (G.2.1 0, 6, .inl (fun _ => 0))), (q30, .inr (1, [.ref q7_34, .ref q16_34, .int (0 : Int32)])), (q7_34, .inl (G.2.1 0, 6, .inl (fun _ => 0))), (q16_34, .inl (G.2.1 3, 5, .inr (.inr (.inr (.inr (fun i => some (r16_34 i))))))), (r16_34 0, .inl (G.2.1 0, 6, .inl (fun _ => 0))), (r16_34 1, .inl (G.2.1 0, 6, .inl (fun _ => 0))), (r16_34 2, .inl (G.2.1 0, 6, .inl (fun _ => 0))), (r16_34 3, .inl (G.2.1 0, 6, .inl (fun _ => 0))), (r16_34 4, .inl (G.2.1 0, 6, .inl (fun _ => 0))), (q41, .inr (2, [.int (clC a1), .ref q7_49])), (q7_49, .inl (G.2.1 0, 6, .inl saF)), (q56, .inr (4, [.ref q19, .ref q30, .ref q41, .ref q36_72, .ref q7_72, .ref q15_72])), (q7_72, .inl (G.2.1 0, 6, .inl (fun _ => 0))), (q15_72, .inl (G.2.1 1, 6, .inr (.inl (fun _ => 0)))), (q36_72, .inr (3, [.ref q41, .ref q7_41_72, .int (0 : Int32), .int (0 : Int32)])), (q7_41_72, .inl (G.2.1 0, 6, .inl (fun _ => 0)))]) (va_runI (n := 3) (As := [.int (clC a1), .ref q19, .ref q30]) (rest := [.ref q79, .ref h0]) ⟨hx0, hb, hml, hown, hts⟩ (ct_Se l G q79 (clC a1) q19 q30 H.size) ⟨(zcBc hts wc_Se_init wini_Se wm_ES_56 (by decide +kernel) rfl rfl ⟨Nat.le_of_ble_eq_true rfl, Nat.le_of_ble_eq_true rfl⟩), rfl, hts _ wi_Se_init⟩ ⟨zPN_blind, zPN_at (X := [(h0, .inr (6, [.int (clC a1), .ref q19, .ref q30, .ref q41, .ref q56, .null])), (q19, .inr (0, [.ref q7_23, .ref q15_23, .ref q23_23, .ref q31_23, .ref q39_23, .ref q46_23, .ref q54_23, .int (0 : Int32), .int (0 : Int32)])), (q7_23, .inl (G.2.1 0, 30, .inl (fun _ => 0))), (q15_23, .inl (G.2.1 0, 30, .inl (fun _ => 0))), (q23_23, .inl (G.2.1 0, 30, .inl (fun _ => 0))), (q31_23, .inl (G.2.1 0, 30, .inl (fun _ => 0))), (q39_23, .inl (G.2.1 0, 30, .inl (fun _ => 0))), (q46_23, .inl (G.2.1 0, 4, .inl (fun _ => 0))), (q54_23, .inl (G.2.1 0, 6, .inl (fun _ => 0))), (q30, .inr (1, [.ref q7_34, .ref q16_34, .int (0 : Int32)])), (q7_34, .inl (G.2.1 0, 6, .inl (fun _ => 0))), (q16_34, .inl (G.2.1 3, 5, .inr (.inr (.inr (.inr (fun i => some (r16_34 i))))))), (r16_34 0, .inl (G.2.1 0, 6, .inl (fun _ => 0))), (r16_34 1, .inl (G.2.1 0, 6, .inl (fun _ => 0))), (r16_34 2, .inl (G.2.1 0, 6, .inl (fun _ => 0))), (r16_34 3, .inl (G.2.1 0, 6, .inl (fun _ => 0))), (r16_34 4, .inl (G.2.1 0, 6, .inl (fun _ => 0))), (q41, .inr (2, [.int (clC a1), .ref q7_49])), (q7_49, .inl (G.2.1 0, 6, .inl saF)), (q56, .inr (4, [.ref q19, .ref q30, .ref q41, .ref q36_72, .ref q7_72, .ref q15_72])), (q7_72, .inl (G.2.1 0, 6, .inl (fun _ => 0))), (q15_72, .inl (G.2.1 1, 6, .inr (.inl (fun _ => 0)))), (q36_72, .inr (3, [.ref q41, .ref q7_41_72, .int (0 : Int32), .int (0 : Int32)])), (q7_41_72, .inl (G.2.1 0, 6, .inl (fun _ => 0)))]) hZ⟩ rfl rfl hl.1 rfl (lv_room (Nat.le_of_ble_eq_true rfl)) d_ES_init_95 ⟨Nat.le_of_ble_eq_true rfl, Nat.le_of_ble_eq_true rfl⟩) hZ (fun w9 H locs hw9 hZ => ?_)
  obtain ⟨q7_95, q17_95, r17_95, q27_95, q35_95, q43_95, q51_95, rfl⟩ := hw9
  have hZ : ZN G h0 s [(h0, .inr (6, [.int (clC a1), .ref q19, .ref q30, .ref q41, .ref q56, .null])), (q19, .inr (0, [.ref q7_23, .ref q15_23, .ref q23_23, .ref q31_23, .ref q39_23, .ref q46_23, .ref q54_23, .int (0 : Int32), .int (0 : Int32)])), (q7_23, .inl (G.2.1 0, 30, .inl (fun _ => 0))), (q15_23, .inl (G.2.1 0, 30, .inl (fun _ => 0))), (q23_23, .inl (G.2.1 0, 30, .inl (fun _ => 0))), (q31_23, .inl (G.2.1 0, 30, .inl (fun _ => 0))), (q39_23, .inl (G.2.1 0, 30, .inl (fun _ => 0))), (q46_23, .inl (G.2.1 0, 4, .inl (fun _ => 0))), (q54_23, .inl (G.2.1 0, 6, .inl (fun _ => 0))), (q30, .inr (1, [.ref q7_34, .ref q16_34, .int (0 : Int32)])), (q7_34, .inl (G.2.1 0, 6, .inl (fun _ => 0))), (q16_34, .inl (G.2.1 3, 5, .inr (.inr (.inr (.inr (fun i => some (r16_34 i))))))), (r16_34 0, .inl (G.2.1 0, 6, .inl (fun _ => 0))), (r16_34 1, .inl (G.2.1 0, 6, .inl (fun _ => 0))), (r16_34 2, .inl (G.2.1 0, 6, .inl (fun _ => 0))), (r16_34 3, .inl (G.2.1 0, 6, .inl (fun _ => 0))), (r16_34 4, .inl (G.2.1 0, 6, .inl (fun _ => 0))), (q41, .inr (2, [.int (clC a1), .ref q7_49])), (q7_49, .inl (G.2.1 0, 6, .inl saF)), (q56, .inr (4, [.ref q19, .ref q30, .ref q41, .ref q36_72, .ref q7_72, .ref q15_72])), (q7_72, .inl (G.2.1 0, 6, .inl (fun _ => 0))), (q15_72, .inl (G.2.1 1, 6, .inr (.inl (fun _ => 0)))), (q36_72, .inr (3, [.ref q41, .ref q7_41_72, .int (0 : Int32), .int (0 : Int32)])), (q7_41_72, .inl (G.2.1 0, 6, .inl (fun _ => 0))), (q79, .inr (5, [.int (clC a1), .ref q19, .ref q30, .ref q7_95, .ref q17_95, .ref q27_95, .ref q35_95, .ref q43_95, .ref q51_95, .int (1000000 : Int32), .int (0 : Int32)])), (q7_95, .inl (G.2.1 2, 6, .inl (fun _ => 0))), (q17_95, .inl (G.2.1 3, 6, .inr (.inr (.inr (.inr (fun i => some (r17_95 i))))))), (r17_95 0, .inl (G.2.1 0, 6, .inl (fun _ => 0))), (r17_95 1, .inl (G.2.1 0, 6, .inl (fun _ => 0))), (r17_95 2, .inl (G.2.1 0, 6, .inl (fun _ => 0))), (r17_95 3, .inl (G.2.1 0, 6, .inl (fun _ => 0))), (r17_95 4, .inl (G.2.1 0, 6, .inl (fun _ => 0))), (r17_95 5, .inl (G.2.1 0, 6, .inl (fun _ => 0))), (q27_95, .inl (G.2.1 0, 6, .inl (fun _ => 0))), (q35_95, .inl (G.2.1 0, 6, .inl (fun _ => 0))), (q43_95, .inl (G.2.1 0, 6, .inl (fun _ => 0))), (q51_95, .inl (G.2.1 0, 6, .inl (fun _ => 0)))] H _ := hZ
  refine fc_ES_search hx0 hb hts hown hin hZ rfl rfl rfl d_ES_init_98 (fun H locs hZ => ?_)
  have hZ : ZN G h0 s [(h0, .inr (6, [.int (clC a1), .ref q19, .ref q30, .ref q41, .ref q56, .ref q79])), (q19, .inr (0, [.ref q7_23, .ref q15_23, .ref q23_23, .ref q31_23, .ref q39_23, .ref q46_23, .ref q54_23, .int (0 : Int32), .int (0 : Int32)])), (q7_23, .inl (G.2.1 0, 30, .inl (fun _ => 0))), (q15_23, .inl (G.2.1 0, 30, .inl (fun _ => 0))), (q23_23, .inl (G.2.1 0, 30, .inl (fun _ => 0))), (q31_23, .inl (G.2.1 0, 30, .inl (fun _ => 0))), (q39_23, .inl (G.2.1 0, 30, .inl (fun _ => 0))), (q46_23, .inl (G.2.1 0, 4, .inl (fun _ => 0))), (q54_23, .inl (G.2.1 0, 6, .inl (fun _ => 0))), (q30, .inr (1, [.ref q7_34, .ref q16_34, .int (0 : Int32)])), (q7_34, .inl (G.2.1 0, 6, .inl (fun _ => 0))), (q16_34, .inl (G.2.1 3, 5, .inr (.inr (.inr (.inr (fun i => some (r16_34 i))))))), (r16_34 0, .inl (G.2.1 0, 6, .inl (fun _ => 0))), (r16_34 1, .inl (G.2.1 0, 6, .inl (fun _ => 0))), (r16_34 2, .inl (G.2.1 0, 6, .inl (fun _ => 0))), (r16_34 3, .inl (G.2.1 0, 6, .inl (fun _ => 0))), (r16_34 4, .inl (G.2.1 0, 6, .inl (fun _ => 0))), (q41, .inr (2, [.int (clC a1), .ref q7_49])), (q7_49, .inl (G.2.1 0, 6, .inl saF)), (q56, .inr (4, [.ref q19, .ref q30, .ref q41, .ref q36_72, .ref q7_72, .ref q15_72])), (q7_72, .inl (G.2.1 0, 6, .inl (fun _ => 0))), (q15_72, .inl (G.2.1 1, 6, .inr (.inl (fun _ => 0)))), (q36_72, .inr (3, [.ref q41, .ref q7_41_72, .int (0 : Int32), .int (0 : Int32)])), (q7_41_72, .inl (G.2.1 0, 6, .inl (fun _ => 0))), (q79, .inr (5, [.int (clC a1), .ref q19, .ref q30, .ref q7_95, .ref q17_95, .ref q27_95, .ref q35_95, .ref q43_95, .ref q51_95, .int (1000000 : Int32), .int (0 : Int32)])), (q7_95, .inl (G.2.1 2, 6, .inl (fun _ => 0))), (q17_95, .inl (G.2.1 3, 6, .inr (.inr (.inr (.inr (fun i => some (r17_95 i))))))), (r17_95 0, .inl (G.2.1 0, 6, .inl (fun _ => 0))), (r17_95 1, .inl (G.2.1 0, 6, .inl (fun _ => 0))), (r17_95 2, .inl (G.2.1 0, 6, .inl (fun _ => 0))), (r17_95 3, .inl (G.2.1 0, 6, .inl (fun _ => 0))), (r17_95 4, .inl (G.2.1 0, 6, .inl (fun _ => 0))), (r17_95 5, .inl (G.2.1 0, 6, .inl (fun _ => 0))), (q27_95, .inl (G.2.1 0, 6, .inl (fun _ => 0))), (q35_95, .inl (G.2.1 0, 6, .inl (fun _ => 0))), (q43_95, .inl (G.2.1 0, 6, .inl (fun _ => 0))), (q51_95, .inl (G.2.1 0, 6, .inl (fun _ => 0)))] H _ := hZ
  exact zn_vret hx0 hb hr hZ hlocks hQ ⟨(fun k => match k with | 1 => q19 | 2 => q7_23 | 3 => q15_23 | 4 => q23_23 | 5 => q31_23 | 6 => q39_23 | 7 => q46_23 | 8 => q54_23 | 9 => q30 | 10 => q7_34 | 11 => q16_34 | 17 => q41 | 18 => q7_49 | 19 => q56 | 20 => q7_72 | 21 => q15_72 | 22 => q36_72 | 23 => q7_41_72 | 24 => q79 | 25 => q7_95 | 26 => q17_95 | 33 => q27_95 | 34 => q35_95 | 35 => q43_95 | 36 => q51_95 | _ => h0), r16_34, r17_95, rfl⟩ (Nat.le_of_ble_eq_true rfl) (Nat.le_of_ble_eq_true rfl) d_ES_init_101
