abbrev rm_Me_togetherWays : Room := ({ frames := 2, cells := 0, slots := 0, locals := 42 } : Room)
set_option maxHeartbeats 4000000 in
set_option maxRecDepth 100000 in
theorem c_Me_togetherWays (l : Launch) (G : zG)  (M : Mem) (r : Int64) (h : p_Me_togetherWays  M = some r) : MetZC l G y_Me_togetherWays (Cond.code y_Me_togetherWays b_Me_togetherWays 1 (some .long) :: zws) rm_Me_togetherWays [.ref (G.1 19)] M (some (.long r)) M := by
  unfold p_Me_togetherWays at h
  refine z_ofWC (lv := [(0, .ref (G.1 19))]) (by decide) (Nat.le_of_ble_eq_true rfl) rfl (fun p e R s m args below meth c Q ls F hl hZ => ?_)
  obtain ⟨hx0, hb, hml, hr, hts, hown, hlocks, rfl, hQ⟩ := F
  refine lv_aload_n hx0 hb d_Me_togetherWays_0 rfl (lv_at hl 0 rfl) ?_
  refine fg_Me_groups hx0 hb hts hown hZ d_Me_togetherWays_1 ?_
  obtain ⟨q1, hc4, h⟩ := bnd_some h
  refine k_Me_Gr_count [] hx0 hb hml hts hown (c_Gr_count l G  M q1 hc4) hZ rfl rfl ⟨Nat.le_of_ble_eq_true rfl, Nat.le_of_ble_eq_true rfl⟩ hl.1 rfl (Nat.le_of_ble_eq_true rfl) d_Me_togetherWays_4 (fun H locs hZ => ?_)
  refine lv_iconst (v := (1 : Int32)) hx0 hb d_Me_togetherWays_7 (by decide) ?_
  refine lv_isub hx0 hb d_Me_togetherWays_8 ?_
  obtain ⟨q2, hc3, h⟩ := bnd_some h
  refine k_Me_ES_factorial [.int (q1 - (1 : Int32))] hx0 hb hml hts hown (c_ES_factorial l G (q1 - (1 : Int32)) M q2 hc3) hZ rfl rfl ⟨Nat.le_of_ble_eq_true rfl, Nat.le_of_ble_eq_true rfl⟩ hl.1 rfl (Nat.le_of_ble_eq_true rfl) d_Me_togetherWays_9 (fun H locs hZ => ?_)
  obtain rfl := Option.some.inj h
  exact z_lretC hx0 hb hr hZ hlocks hQ d_Me_togetherWays_12
abbrev rm_Me_drawnSum : Room := ({ frames := 4, cells := 0, slots := 0, locals := 94 } : Room)
set_option maxHeartbeats 4000000 in
set_option maxRecDepth 100000 in
theorem c_Me_drawnSum (l : Launch) (G : zG) (a1 : Int32) (a2 : Int32) (a3 : Int32) (M : Mem) (r : Int64 × Mem) (h : p_Me_drawnSum a1 a2 a3 M = some r) : MetZC l G y_Me_drawnSum (Cond.code y_Me_drawnSum b_Me_drawnSum 8 (some .long) :: zws) rm_Me_drawnSum [.ref (G.1 19), .int a1, .int a2, .int a3] M (some (.long r.1)) r.2 := by
  unfold p_Me_drawnSum at h
  refine z_ofWC (lv := [(0, .ref (G.1 19)), (1, .int a1), (2, .int a2), (3, .int a3)]) (by decide) (Nat.le_of_ble_eq_true rfl) rfl (fun p e R s m args below meth c Q ls F hl hZ => ?_)
  obtain ⟨hx0, hb, hml, hr, hts, hown, hlocks, rfl, hQ⟩ := F
  refine lv_aload_n hx0 hb d_Me_drawnSum_0 rfl (lv_at hl 0 rfl) ?_
  refine fg_Me_groups hx0 hb hts hown hZ d_Me_drawnSum_1 ?_
  refine lv_iconst (v := (1 : Int32)) hx0 hb d_Me_drawnSum_4 (by decide) ?_
  refine lv_iload_n hx0 hb d_Me_drawnSum_5 rfl (lv_at hl 1 rfl) ?_
  refine lv_ishl hx0 hb d_Me_drawnSum_6 ?_
  obtain ⟨q1, hc5, h⟩ := bnd_some h
  refine k_Me_Gr_columnsOf [.int ((1 : Int32) <<< (a1 &&& 31))] hx0 hb hml hts hown (c_Gr_columnsOf l G ((1 : Int32) <<< (a1 &&& 31)) M q1 hc5) hZ rfl rfl ⟨Nat.le_of_ble_eq_true rfl, Nat.le_of_ble_eq_true rfl⟩ hl.1 rfl (Nat.le_of_ble_eq_true rfl) d_Me_drawnSum_7 (fun H locs hZ => ?_)
  refine lv_istore (lv' := [(4, .int q1), (0, .ref (G.1 19)), (1, .int a1), (2, .int a2), (3, .int a3)]) hx0 hb d_Me_drawnSum_10 hl (by decide) rfl (fun ls hl => ?_)
  refine lv_lconst (v := (0 : Int64)) hx0 hb d_Me_drawnSum_12 (by decide) ?_
  refine lv_lstore (lv' := [(5, .long (0 : Int64)), (4, .int q1), (0, .ref (G.1 19)), (1, .int a1), (2, .int a2), (3, .int a3)]) hx0 hb d_Me_drawnSum_13 hl (by decide) rfl (fun ls hl => ?_)
  refine lv_aload_n hx0 hb d_Me_drawnSum_15 rfl (lv_at hl 2 rfl) ?_
  refine fg_Me_orders hx0 hb hts hown hZ d_Me_drawnSum_16 ?_
  refine lv_iload_n hx0 hb d_Me_drawnSum_19 rfl (lv_at hl 4 rfl) ?_
  obtain ⟨q2, hc4, h⟩ := bnd_some h
  refine k_Me_Or_start [.int a2] hx0 hb hml hts hown (c_Or_start l G a2 M q2 hc4) hZ rfl rfl ⟨Nat.le_of_ble_eq_true rfl, Nat.le_of_ble_eq_true rfl⟩ hl.1 rfl (Nat.le_of_ble_eq_true rfl) d_Me_drawnSum_20 (fun H locs hZ => ?_)
  refine lv_iconst (v := (0 : Int32)) hx0 hb d_Me_drawnSum_23 (by decide) ?_
  refine lv_istore (lv' := [(7, .int (0 : Int32)), (5, .long (0 : Int64)), (4, .int q1), (0, .ref (G.1 19)), (1, .int a1), (2, .int a2), (3, .int a3)]) hx0 hb d_Me_drawnSum_24 hl (by decide) rfl (fun ls hl => ?_)
  obtain ⟨q3, hq6, h⟩ := bnd_some h
  refine W_itr (At := fun (s0 : Int64 × Int32 × Mem) => ∀ (H : Heap) (locs : List Loc) (ls : Array Slot), ZZC G s s0.2.2 H locs → lv_has ls 8 [(7, .int s0.2.1), (5, .long s0.1), (4, .int q1), (0, .ref (G.1 19)), (1, .int a1), (3, .int a3)] → W p l e rm_Me_drawnSum s m args below meth c H locs 0 0 Q (F0 m 26 ls [])) (Ex := fun (q0 : Int64 × Int32 × Mem) => ∀ (H : Heap) (locs : List Loc) (ls : Array Slot), ZZC G s q0.2.2 H locs → lv_has ls 8 [(5, .long q0.1)] → W p l e rm_Me_drawnSum s m args below meth c H locs 0 0 Q (F0 m 71 ls [])) (fun s0 x h hx => ?_) _ _ q3 hq6 (fun H locs ls hZ hl => ?_) _ _ _ hZ (lv_sub hl [0, 1, 2, 3, 4, 6] rfl)
  · obtain ⟨x5_26, x7_26, M_26⟩ := s0
    replace h : p_Me_drawnSum_L26 a1 a3 q1 x5_26 x7_26 M_26 = some x := h
    unfold p_Me_drawnSum_L26 at h
    intro H locs ls hZ hl
    replace hZ : ZZC G s M_26 H locs := hZ
    replace hl : lv_has ls 8 [(7, .int x7_26), (5, .long x5_26), (4, .int q1), (0, .ref (G.1 19)), (1, .int a1), (3, .int a3)] := hl
    refine lv_iload hx0 hb d_Me_drawnSum_26 (lv_at hl 0 rfl) ?_
    refine lv_iload_n hx0 hb d_Me_drawnSum_28 rfl (lv_at hl 5 rfl) ?_
    refine lv_icmp_ge (tgt := 71) hx0 hb d_Me_drawnSum_29 (by decide) (fun c26_1 => ?_) (fun c26_1 => ?_)
    · replace h := (if_pos c26_1).symm.trans h
      obtain rfl := Option.some.inj h
      exact hx _ _ _ hZ (lv_sub hl [1] rfl)
    · replace h := (if_neg c26_1).symm.trans h
      refine lv_aload_n hx0 hb d_Me_drawnSum_32 rfl (lv_at hl 3 rfl) ?_
      refine fg_Me_orders hx0 hb hts hown hZ d_Me_drawnSum_33 ?_
      obtain ⟨q26_2, hc26_9, h⟩ := bnd_some h
      refine k_Me_Or_drawNext [] hx0 hb hml hts hown (c_Or_drawNext l G  M_26 q26_2 hc26_9) hZ rfl rfl ⟨Nat.le_of_ble_eq_true rfl, Nat.le_of_ble_eq_true rfl⟩ hl.1 rfl (Nat.le_of_ble_eq_true rfl) d_Me_drawnSum_36 (fun H locs hZ => ?_)
      refine lv_lload hx0 hb d_Me_drawnSum_39 (lv_at hl 1 rfl) ?_
      refine lv_aload_n hx0 hb d_Me_drawnSum_41 rfl (lv_at hl 3 rfl) ?_
      refine lv_aload_n hx0 hb d_Me_drawnSum_42 rfl (lv_at hl 3 rfl) ?_
      refine fg_Me_groups hx0 hb hts hown hZ d_Me_drawnSum_43 ?_
      refine lv_aload_n hx0 hb d_Me_drawnSum_46 rfl (lv_at hl 3 rfl) ?_
      refine fg_Me_orders hx0 hb hts hown hZ d_Me_drawnSum_47 ?_
      refine lv_iload_n hx0 hb d_Me_drawnSum_50 rfl (lv_at hl 4 rfl) ?_
      obtain ⟨q26_3, hc26_8, h⟩ := bnd_some h
      refine k_Me_Or_groupsBefore [.int a1] hx0 hb hml hts hown (c_Or_groupsBefore l G a1 q26_2 q26_3 hc26_8) hZ rfl rfl ⟨Nat.le_of_ble_eq_true rfl, Nat.le_of_ble_eq_true rfl⟩ hl.1 rfl (Nat.le_of_ble_eq_true rfl) d_Me_drawnSum_51 (fun H locs hZ => ?_)
      obtain ⟨q26_4, hc26_7, h⟩ := bnd_some h
      refine k_Me_Gr_columnsOf [.int q26_3] hx0 hb hml hts hown (c_Gr_columnsOf l G q26_3 q26_2 q26_4 hc26_7) hZ rfl rfl ⟨Nat.le_of_ble_eq_true rfl, Nat.le_of_ble_eq_true rfl⟩ hl.1 rfl (Nat.le_of_ble_eq_true rfl) d_Me_drawnSum_54 (fun H locs hZ => ?_)
      refine lv_iload hx0 hb d_Me_drawnSum_57 (lv_at hl 2 rfl) ?_
      obtain ⟨q26_5, hc26_6, h⟩ := bnd_some h
      refine k_Me_Me_brought [.int q26_4, .int q1] hx0 hb hml hts hown (c_Me_brought l G q26_4 q1 q26_2 q26_5 hc26_6) hZ rfl rfl ⟨Nat.le_of_ble_eq_true rfl, Nat.le_of_ble_eq_true rfl⟩ hl.1 rfl (Nat.le_of_ble_eq_true rfl) d_Me_drawnSum_59 (fun H locs hZ => ?_)
      refine lv_ladd hx0 hb d_Me_drawnSum_62 ?_
      refine lv_lstore (lv' := [(5, .long (x5_26 + q26_5.1)), (7, .int x7_26), (4, .int q1), (0, .ref (G.1 19)), (1, .int a1), (3, .int a3)]) hx0 hb d_Me_drawnSum_63 hl (by decide) rfl (fun ls hl => ?_)
      refine lv_iinc (v := (x7_26 + (1 : Int32))) (lv' := [(7, .int (x7_26 + (1 : Int32))), (5, .long (x5_26 + q26_5.1)), (4, .int q1), (0, .ref (G.1 19)), (1, .int a1), (3, .int a3)]) hx0 hb d_Me_drawnSum_65 hl (k := 1) rfl rfl (by decide) rfl (fun ls hl => ?_)
      refine lv_goto (tgt := 26) hx0 hb d_Me_drawnSum_68 (by decide) ?_
      obtain rfl := Option.some.inj h
      exact hx _ _ _ hZ (lv_sub hl [0, 1, 2, 3, 4, 5] rfl)
  · replace hZ : ZZC G s q3.2.2 H locs := hZ
    replace hl : lv_has ls 8 [(5, .long q3.1)] := hl
    refine lv_lload hx0 hb d_Me_drawnSum_71 (lv_at hl 0 rfl) ?_
    obtain rfl := Option.some.inj h
    exact z_lretC hx0 hb hr hZ hlocks hQ d_Me_drawnSum_73
abbrev rm_Me_sumWith : Room := ({ frames := 2, cells := 0, slots := 0, locals := 48 } : Room)
set_option maxHeartbeats 4000000 in
set_option maxRecDepth 100000 in
theorem c_Me_sumWith (l : Launch) (G : zG) (a1 : Nat) (a2 : Int32) (a3 : Int32) (M : Mem) (r : Int64 × Mem) (h : p_Me_sumWith a1 a2 a3 M = some r) : MetZC l G y_Me_sumWith (Cond.code y_Me_sumWith b_Me_sumWith 5 (some .long) :: zws) rm_Me_sumWith [.ref (G.1 19), .ref (G.1 a1), .int a2, .int a3] M (some (.long r.1)) r.2 := by
  unfold p_Me_sumWith at h
  refine z_ofWC (lv := [(0, .ref (G.1 19)), (1, .ref (G.1 a1)), (2, .int a2), (3, .int a3)]) (by decide) (Nat.le_of_ble_eq_true rfl) rfl (fun p e R s m args below meth c Q ls F hl hZ => ?_)
  obtain ⟨hx0, hb, hml, hr, hts, hown, hlocks, rfl, hQ⟩ := F
  refine lv_iconst (v := (0 : Int32)) hx0 hb d_Me_sumWith_0 (by decide) ?_
  refine lv_istore (lv' := [(4, .int (0 : Int32)), (0, .ref (G.1 19)), (1, .ref (G.1 a1)), (2, .int a2), (3, .int a3)]) hx0 hb d_Me_sumWith_1 hl (by decide) rfl (fun ls hl => ?_)
  obtain ⟨q1, hq4, h⟩ := bnd_some h
  refine W_itr (At := fun (s0 : Int32 × Mem) => ∀ (H : Heap) (locs : List Loc) (ls : Array Slot), ZZC G s s0.2 H locs → lv_has ls 5 [(4, .int s0.1), (0, .ref (G.1 19)), (1, .ref (G.1 a1)), (2, .int a2), (3, .int a3)] → W p l e rm_Me_sumWith s m args below meth c H locs 0 0 Q (F0 m 3 ls [])) (Ex := fun (q0 : Int32 × Mem) => ∀ (H : Heap) (locs : List Loc) (ls : Array Slot), ZZC G s q0.2 H locs → lv_has ls 5 [(0, .ref (G.1 19))] → W p l e rm_Me_sumWith s m args below meth c H locs 0 0 Q (F0 m 37 ls [])) (fun s0 x h hx => ?_) _ _ q1 hq4 (fun H locs ls hZ hl => ?_) _ _ _ hZ (lv_sub hl [0, 1, 2, 3, 4] rfl)
  · obtain ⟨x4_3, M_3⟩ := s0
    replace h : p_Me_sumWith_L3 a1 a2 a3 x4_3 M_3 = some x := h
    unfold p_Me_sumWith_L3 at h
    intro H locs ls hZ hl
    replace hZ : ZZC G s M_3 H locs := hZ
    replace hl : lv_has ls 5 [(4, .int x4_3), (0, .ref (G.1 19)), (1, .ref (G.1 a1)), (2, .int a2), (3, .int a3)] := hl
    refine lv_iload hx0 hb d_Me_sumWith_3 (lv_at hl 0 rfl) ?_
    refine lv_bipush (v := (6 : Int32)) hx0 hb d_Me_sumWith_5 (by decide) ?_
    refine lv_icmp_ge (tgt := 37) hx0 hb d_Me_sumWith_7 (by decide) (fun c3_1 => ?_) (fun c3_1 => ?_)
    · replace h := (if_pos c3_1).symm.trans h
      obtain rfl := Option.some.inj h
      exact hx _ _ _ hZ (lv_sub hl [1] rfl)
    · replace h := (if_neg c3_1).symm.trans h
      refine lv_aload_n hx0 hb d_Me_sumWith_10 rfl (lv_at hl 1 rfl) ?_
      refine fg_Me_mixed hx0 hb hts hown hZ d_Me_sumWith_11 ?_
      refine lv_iload hx0 hb d_Me_sumWith_14 (lv_at hl 0 rfl) ?_
      refine lv_iload hx0 hb d_Me_sumWith_16 (lv_at hl 0 rfl) ?_
      refine lv_iload_n hx0 hb d_Me_sumWith_18 rfl (lv_at hl 3 rfl) ?_
      refine lv_icmp_ne (tgt := 26) hx0 hb d_Me_sumWith_19 (by decide) (fun c3_2 => ?_) (fun c3_2 => ?_)
      · replace h := (if_neg c3_2).symm.trans h
        refine lv_aload_n hx0 hb d_Me_sumWith_26 rfl (lv_at hl 2 rfl) ?_
        refine lv_iload hx0 hb d_Me_sumWith_27 (lv_at hl 0 rfl) ?_
        obtain ⟨hi3_3, h⟩ := chk_some h
        refine z_ialoadC (k := a1) hx0 hb hZ hi3_3 d_Me_sumWith_29 ?_
        obtain ⟨hi3_4, h⟩ := chk_some h
        refine z_iastoreC (k := 20) hx0 hb hZ hi3_4 d_Me_sumWith_30 (fun H locs hZ => ?_)
        obtain ⟨m3_5, em3_5, h⟩ := nm_some h
        rw [em3_5] at hZ
        refine lv_iinc (v := (x4_3 + (1 : Int32))) (lv' := [(4, .int (x4_3 + (1 : Int32))), (0, .ref (G.1 19)), (1, .ref (G.1 a1)), (2, .int a2), (3, .int a3)]) hx0 hb d_Me_sumWith_31 hl (k := 0) rfl rfl (by decide) rfl (fun ls hl => ?_)
        refine lv_goto (tgt := 3) hx0 hb d_Me_sumWith_34 (by decide) ?_
        obtain rfl := Option.some.inj h
        exact hx _ _ _ hZ (lv_sub hl [0, 1, 2, 3, 4] rfl)
      · replace h := (if_pos c3_2).symm.trans h
        refine lv_iload_n hx0 hb d_Me_sumWith_22 rfl (lv_at hl 4 rfl) ?_
        refine lv_goto (tgt := 30) hx0 hb d_Me_sumWith_23 (by decide) ?_
        obtain ⟨hi3_6, h⟩ := chk_some h
        refine z_iastoreC (k := 20) hx0 hb hZ hi3_6 d_Me_sumWith_30 (fun H locs hZ => ?_)
        obtain ⟨m3_7, em3_7, h⟩ := nm_some h
        rw [em3_7] at hZ
        refine lv_iinc (v := (x4_3 + (1 : Int32))) (lv' := [(4, .int (x4_3 + (1 : Int32))), (0, .ref (G.1 19)), (1, .ref (G.1 a1)), (2, .int a2), (3, .int a3)]) hx0 hb d_Me_sumWith_31 hl (k := 0) rfl rfl (by decide) rfl (fun ls hl => ?_)
        refine lv_goto (tgt := 3) hx0 hb d_Me_sumWith_34 (by decide) ?_
        obtain rfl := Option.some.inj h
        exact hx _ _ _ hZ (lv_sub hl [0, 1, 2, 3, 4] rfl)
  · replace hZ : ZZC G s q1.2 H locs := hZ
    replace hl : lv_has ls 5 [(0, .ref (G.1 19))] := hl
    refine lv_aload_n hx0 hb d_Me_sumWith_37 rfl (lv_at hl 0 rfl) ?_
    refine fg_Me_learner hx0 hb hts hown hZ d_Me_sumWith_38 ?_
    refine lv_aload_n hx0 hb d_Me_sumWith_41 rfl (lv_at hl 0 rfl) ?_
    refine fg_Me_mixed hx0 hb hts hown hZ d_Me_sumWith_42 ?_
    obtain ⟨q2, hc3, h⟩ := bnd_some h
    refine k_Me_Ln_sumFor [.ref (G.1 20)] hx0 hb hml hts hown (c_Ln_sumFor l G 20 q1.2 q2 hc3) hZ rfl rfl ⟨Nat.le_of_ble_eq_true rfl, Nat.le_of_ble_eq_true rfl⟩ hl.1 rfl (Nat.le_of_ble_eq_true rfl) d_Me_sumWith_45 (fun H locs hZ => ?_)
    refine lv_i2l (v := Int32.toInt64 q2) hx0 hb d_Me_sumWith_48 rfl ?_
    obtain rfl := Option.some.inj h
    exact z_lretC hx0 hb hr hZ hlocks hQ d_Me_sumWith_49
abbrev rm_Me_replacedSum : Room := ({ frames := 3, cells := 0, slots := 0, locals := 72 } : Room)
set_option maxHeartbeats 4000000 in
set_option maxRecDepth 100000 in
theorem c_Me_replacedSum (l : Launch) (G : zG) (a1 : Int32) (a2 : Int32) (M : Mem) (r : Int64 × Mem) (h : p_Me_replacedSum a1 a2 M = some r) : MetZC l G y_Me_replacedSum (Cond.code y_Me_replacedSum b_Me_replacedSum 6 (some .long) :: zws) rm_Me_replacedSum [.ref (G.1 19), .int a1, .int a2] M (some (.long r.1)) r.2 := by
  unfold p_Me_replacedSum at h
  refine z_ofWC (lv := [(0, .ref (G.1 19)), (1, .int a1), (2, .int a2)]) (by decide) (Nat.le_of_ble_eq_true rfl) rfl (fun p e R s m args below meth c Q ls F hl hZ => ?_)
  obtain ⟨hx0, hb, hml, hr, hts, hown, hlocks, rfl, hQ⟩ := F
  refine lv_lconst (v := (0 : Int64)) hx0 hb d_Me_replacedSum_0 (by decide) ?_
  refine lv_lstore_n (lv' := [(3, .long (0 : Int64)), (0, .ref (G.1 19)), (1, .int a1), (2, .int a2)]) hx0 hb d_Me_replacedSum_1 rfl hl (by decide) rfl (fun ls hl => ?_)
  refine lv_iconst (v := (0 : Int32)) hx0 hb d_Me_replacedSum_2 (by decide) ?_
  refine lv_istore (lv' := [(5, .int (0 : Int32)), (3, .long (0 : Int64)), (0, .ref (G.1 19)), (1, .int a1), (2, .int a2)]) hx0 hb d_Me_replacedSum_3 hl (by decide) rfl (fun ls hl => ?_)
  obtain ⟨q1, hq2, h⟩ := bnd_some h
  refine W_itr (At := fun (s0 : Int64 × Int32 × Mem) => ∀ (H : Heap) (locs : List Loc) (ls : Array Slot), ZZC G s s0.2.2 H locs → lv_has ls 6 [(5, .int s0.2.1), (3, .long s0.1), (0, .ref (G.1 19)), (1, .int a1), (2, .int a2)] → W p l e rm_Me_replacedSum s m args below meth c H locs 0 0 Q (F0 m 5 ls [])) (Ex := fun (q0 : Int64 × Int32 × Mem) => ∀ (H : Heap) (locs : List Loc) (ls : Array Slot), ZZC G s q0.2.2 H locs → lv_has ls 6 [(3, .long q0.1)] → W p l e rm_Me_replacedSum s m args below meth c H locs 0 0 Q (F0 m 41 ls [])) (fun s0 x h hx => ?_) _ _ q1 hq2 (fun H locs ls hZ hl => ?_) _ _ _ hZ (lv_sub hl [0, 1, 2, 3, 4] rfl)
  · obtain ⟨x3_5, x5_5, M_5⟩ := s0
    replace h : p_Me_replacedSum_L5 a1 a2 x3_5 x5_5 M_5 = some x := h
    unfold p_Me_replacedSum_L5 at h
    intro H locs ls hZ hl
    replace hZ : ZZC G s M_5 H locs := hZ
    replace hl : lv_has ls 6 [(5, .int x5_5), (3, .long x3_5), (0, .ref (G.1 19)), (1, .int a1), (2, .int a2)] := hl
    refine lv_iload hx0 hb d_Me_replacedSum_5 (lv_at hl 0 rfl) ?_
    refine lv_aload_n hx0 hb d_Me_replacedSum_7 rfl (lv_at hl 2 rfl) ?_
    refine fg_Me_rows hx0 hb hts hown hZ d_Me_replacedSum_8 ?_
    obtain ⟨q5_1, hc5_7, h⟩ := bnd_some h
    refine k_Me_Rw_count [] hx0 hb hml hts hown (c_Rw_count l G  M_5 q5_1 hc5_7) hZ rfl rfl ⟨Nat.le_of_ble_eq_true rfl, Nat.le_of_ble_eq_true rfl⟩ hl.1 rfl (Nat.le_of_ble_eq_true rfl) d_Me_replacedSum_11 (fun H locs hZ => ?_)
    refine lv_icmp_ge (tgt := 41) hx0 hb d_Me_replacedSum_14 (by decide) (fun c5_2 => ?_) (fun c5_2 => ?_)
    · replace h := (if_pos c5_2).symm.trans h
      obtain rfl := Option.some.inj h
      exact hx _ _ _ hZ (lv_sub hl [1] rfl)
    · replace h := (if_neg c5_2).symm.trans h
      refine lv_lload_n hx0 hb d_Me_replacedSum_17 rfl (lv_at hl 1 rfl) ?_
      refine lv_aload_n hx0 hb d_Me_replacedSum_18 rfl (lv_at hl 2 rfl) ?_
      refine lv_aload_n hx0 hb d_Me_replacedSum_19 rfl (lv_at hl 2 rfl) ?_
      refine fg_Me_rows hx0 hb hts hown hZ d_Me_replacedSum_20 ?_
      refine lv_iload hx0 hb d_Me_replacedSum_23 (lv_at hl 0 rfl) ?_
      obtain ⟨q5_3, hc5_6, h⟩ := bnd_some h
      refine k_Me_Rw_at [.int x5_5] hx0 hb hml hts hown (c_Rw_at l G x5_5 M_5 q5_3 hc5_6) hZ rfl rfl ⟨Nat.le_of_ble_eq_true rfl, Nat.le_of_ble_eq_true rfl⟩ hl.1 rfl (Nat.le_of_ble_eq_true rfl) d_Me_replacedSum_25 (fun H locs hZ => ?_)
      refine lv_iload_n hx0 hb d_Me_replacedSum_28 rfl (lv_at hl 3 rfl) ?_
      refine lv_iload_n hx0 hb d_Me_replacedSum_29 rfl (lv_at hl 4 rfl) ?_
      obtain ⟨q5_4, hc5_5, h⟩ := bnd_some h
      refine k_Me_Me_sumWith [.ref (G.1 q5_3), .int a1, .int a2] hx0 hb hml hts hown (c_Me_sumWith l G q5_3 a1 a2 M_5 q5_4 hc5_5) hZ rfl rfl ⟨Nat.le_of_ble_eq_true rfl, Nat.le_of_ble_eq_true rfl⟩ hl.1 rfl (Nat.le_of_ble_eq_true rfl) d_Me_replacedSum_30 (fun H locs hZ => ?_)
      refine lv_ladd hx0 hb d_Me_replacedSum_33 ?_
      refine lv_lstore_n (lv' := [(3, .long (x3_5 + q5_4.1)), (5, .int x5_5), (0, .ref (G.1 19)), (1, .int a1), (2, .int a2)]) hx0 hb d_Me_replacedSum_34 rfl hl (by decide) rfl (fun ls hl => ?_)
      refine lv_iinc (v := (x5_5 + (1 : Int32))) (lv' := [(5, .int (x5_5 + (1 : Int32))), (3, .long (x3_5 + q5_4.1)), (0, .ref (G.1 19)), (1, .int a1), (2, .int a2)]) hx0 hb d_Me_replacedSum_35 hl (k := 1) rfl rfl (by decide) rfl (fun ls hl => ?_)
      refine lv_goto (tgt := 5) hx0 hb d_Me_replacedSum_38 (by decide) ?_
      obtain rfl := Option.some.inj h
      exact hx _ _ _ hZ (lv_sub hl [0, 1, 2, 3, 4] rfl)
  · replace hZ : ZZC G s q1.2.2 H locs := hZ
    replace hl : lv_has ls 6 [(3, .long q1.1)] := hl
    refine lv_lload_n hx0 hb d_Me_replacedSum_41 rfl (lv_at hl 0 rfl) ?_
    obtain rfl := Option.some.inj h
    exact z_lretC hx0 hb hr hZ hlocks hQ d_Me_replacedSum_42
abbrev rm_Me_changeSum : Room := ({ frames := 3, cells := 0, slots := 0, locals := 72 } : Room)
set_option maxHeartbeats 4000000 in
set_option maxRecDepth 100000 in
theorem c_Me_changeSum (l : Launch) (G : zG) (a1 : Int32) (M : Mem) (r : Int64 × Mem) (h : p_Me_changeSum a1 M = some r) : MetZC l G y_Me_changeSum (Cond.code y_Me_changeSum b_Me_changeSum 11 (some .long) :: zws) rm_Me_changeSum [.ref (G.1 19), .int a1] M (some (.long r.1)) r.2 := by
  unfold p_Me_changeSum at h
  refine z_ofWC (lv := [(0, .ref (G.1 19)), (1, .int a1)]) (by decide) (Nat.le_of_ble_eq_true rfl) rfl (fun p e R s m args below meth c Q ls F hl hZ => ?_)
  obtain ⟨hx0, hb, hml, hr, hts, hown, hlocks, rfl, hQ⟩ := F
  refine lv_lconst (v := (0 : Int64)) hx0 hb d_Me_changeSum_0 (by decide) ?_
  refine lv_lstore_n (lv' := [(2, .long (0 : Int64)), (0, .ref (G.1 19)), (1, .int a1)]) hx0 hb d_Me_changeSum_1 rfl hl (by decide) rfl (fun ls hl => ?_)
  refine lv_iconst (v := (0 : Int32)) hx0 hb d_Me_changeSum_2 (by decide) ?_
  refine lv_istore (lv' := [(4, .int (0 : Int32)), (2, .long (0 : Int64)), (0, .ref (G.1 19)), (1, .int a1)]) hx0 hb d_Me_changeSum_3 hl (by decide) rfl (fun ls hl => ?_)
  obtain ⟨q1, hq2, h⟩ := bnd_some h
  refine W_itr (At := fun (s0 : Int64 × Int32 × Mem) => ∀ (H : Heap) (locs : List Loc) (ls : Array Slot), ZZC G s s0.2.2 H locs → lv_has ls 11 [(4, .int s0.2.1), (2, .long s0.1), (0, .ref (G.1 19)), (1, .int a1)] → W p l e rm_Me_changeSum s m args below meth c H locs 0 0 Q (F0 m 5 ls [])) (Ex := fun (q0 : Int64 × Int32 × Mem) => ∀ (H : Heap) (locs : List Loc) (ls : Array Slot), ZZC G s q0.2.2 H locs → lv_has ls 11 [(2, .long q0.1)] → W p l e rm_Me_changeSum s m args below meth c H locs 0 0 Q (F0 m 98 ls [])) (fun s0 x h hx => ?_) _ _ q1 hq2 (fun H locs ls hZ hl => ?_) _ _ _ hZ (lv_sub hl [0, 1, 2, 3] rfl)
  · obtain ⟨x2_5, x4_5, M_5⟩ := s0
    replace h : p_Me_changeSum_L5 a1 x2_5 x4_5 M_5 = some x := h
    unfold p_Me_changeSum_L5 at h
    intro H locs ls hZ hl
    replace hZ : ZZC G s M_5 H locs := hZ
    replace hl : lv_has ls 11 [(4, .int x4_5), (2, .long x2_5), (0, .ref (G.1 19)), (1, .int a1)] := hl
    refine lv_iload hx0 hb d_Me_changeSum_5 (lv_at hl 0 rfl) ?_
    refine lv_aload_n hx0 hb d_Me_changeSum_7 rfl (lv_at hl 2 rfl) ?_
    refine fg_Me_rows hx0 hb hts hown hZ d_Me_changeSum_8 ?_
    obtain ⟨q5_1, hc5_8, h⟩ := bnd_some h
    refine k_Me_Rw_count [] hx0 hb hml hts hown (c_Rw_count l G  M_5 q5_1 hc5_8) hZ rfl rfl ⟨Nat.le_of_ble_eq_true rfl, Nat.le_of_ble_eq_true rfl⟩ hl.1 rfl (Nat.le_of_ble_eq_true rfl) d_Me_changeSum_11 (fun H locs hZ => ?_)
    refine lv_icmp_ge (tgt := 98) hx0 hb d_Me_changeSum_14 (by decide) (fun c5_2 => ?_) (fun c5_2 => ?_)
    · replace h := (if_pos c5_2).symm.trans h
      obtain rfl := Option.some.inj h
      exact hx _ _ _ hZ (lv_sub hl [1] rfl)
    · replace h := (if_neg c5_2).symm.trans h
      refine lv_aload_n hx0 hb d_Me_changeSum_17 rfl (lv_at hl 2 rfl) ?_
      refine fg_Me_rows hx0 hb hts hown hZ d_Me_changeSum_18 ?_
      refine lv_iload hx0 hb d_Me_changeSum_21 (lv_at hl 0 rfl) ?_
      obtain ⟨q5_3, hc5_7, h⟩ := bnd_some h
      refine k_Me_Rw_at [.int x4_5] hx0 hb hml hts hown (c_Rw_at l G x4_5 M_5 q5_3 hc5_7) hZ rfl rfl ⟨Nat.le_of_ble_eq_true rfl, Nat.le_of_ble_eq_true rfl⟩ hl.1 rfl (Nat.le_of_ble_eq_true rfl) d_Me_changeSum_23 (fun H locs hZ => ?_)
      refine lv_astore (lv' := [(5, .ref (G.1 q5_3)), (4, .int x4_5), (2, .long x2_5), (0, .ref (G.1 19)), (1, .int a1)]) hx0 hb d_Me_changeSum_26 hl (by decide) rfl (fun ls hl => ?_)
      refine lv_aload_n hx0 hb d_Me_changeSum_28 rfl (lv_at hl 3 rfl) ?_
      refine fg_Me_learner hx0 hb hts hown hZ d_Me_changeSum_29 ?_
      refine lv_aload hx0 hb d_Me_changeSum_32 (lv_at hl 0 rfl) ?_
      obtain ⟨q5_4, hc5_6, h⟩ := bnd_some h
      refine k_Me_Ln_sumFor [.ref (G.1 q5_3)] hx0 hb hml hts hown (c_Ln_sumFor l G q5_3 M_5 q5_4 hc5_6) hZ rfl rfl ⟨Nat.le_of_ble_eq_true rfl, Nat.le_of_ble_eq_true rfl⟩ hl.1 rfl (Nat.le_of_ble_eq_true rfl) d_Me_changeSum_34 (fun H locs hZ => ?_)
      refine lv_i2l (v := Int32.toInt64 q5_4) hx0 hb d_Me_changeSum_37 rfl ?_
      refine lv_lstore (lv' := [(6, .long (Int32.toInt64 q5_4)), (5, .ref (G.1 q5_3)), (4, .int x4_5), (2, .long x2_5), (0, .ref (G.1 19)), (1, .int a1)]) hx0 hb d_Me_changeSum_38 hl (by decide) rfl (fun ls hl => ?_)
      refine lv_iconst (v := (0 : Int32)) hx0 hb d_Me_changeSum_40 (by decide) ?_
      refine lv_istore (lv' := [(8, .int (0 : Int32)), (6, .long (Int32.toInt64 q5_4)), (5, .ref (G.1 q5_3)), (4, .int x4_5), (2, .long x2_5), (0, .ref (G.1 19)), (1, .int a1)]) hx0 hb d_Me_changeSum_41 hl (by decide) rfl (fun ls hl => ?_)
      obtain ⟨q5_5, hq3, h⟩ := bnd_some h
      refine W_itr (At := fun (s0 : Int64 × Int32 × Mem) => ∀ (H : Heap) (locs : List Loc) (ls : Array Slot), ZZC G s s0.2.2 H locs → lv_has ls 11 [(8, .int s0.2.1), (6, .long (Int32.toInt64 q5_4)), (5, .ref (G.1 q5_3)), (4, .int x4_5), (2, .long s0.1), (0, .ref (G.1 19)), (1, .int a1)] → W p l e rm_Me_changeSum s m args below meth c H locs 0 0 Q (F0 m 43 ls [])) (Ex := fun (q0 : Int64 × Int32 × Mem) => ∀ (H : Heap) (locs : List Loc) (ls : Array Slot), ZZC G s q0.2.2 H locs → lv_has ls 11 [(4, .int x4_5), (2, .long q0.1), (0, .ref (G.1 19)), (1, .int a1)] → W p l e rm_Me_changeSum s m args below meth c H locs 0 0 Q (F0 m 92 ls [])) (fun s0 x h hx => ?_) _ _ q5_5 hq3 (fun H locs ls hZ hl => ?_) _ _ _ hZ (lv_sub hl [0, 1, 2, 3, 4, 5, 6] rfl)
      · obtain ⟨x2_43, x8_43, M_43⟩ := s0
        replace h : p_Me_changeSum_L43 a1 q5_3 q5_4 x2_43 x8_43 M_43 = some x := h
        unfold p_Me_changeSum_L43 at h
        intro H locs ls hZ hl
        replace hZ : ZZC G s M_43 H locs := hZ
        replace hl : lv_has ls 11 [(8, .int x8_43), (6, .long (Int32.toInt64 q5_4)), (5, .ref (G.1 q5_3)), (4, .int x4_5), (2, .long x2_43), (0, .ref (G.1 19)), (1, .int a1)] := hl
        refine lv_iload hx0 hb d_Me_changeSum_43 (lv_at hl 0 rfl) ?_
        refine lv_aload_n hx0 hb d_Me_changeSum_45 rfl (lv_at hl 5 rfl) ?_
        refine fg_Me_rows hx0 hb hts hown hZ d_Me_changeSum_46 ?_
        obtain ⟨q43_1, hc43_8, h⟩ := bnd_some h
        refine k_Me_Rw_count [] hx0 hb hml hts hown (c_Rw_count l G  M_43 q43_1 hc43_8) hZ rfl rfl ⟨Nat.le_of_ble_eq_true rfl, Nat.le_of_ble_eq_true rfl⟩ hl.1 rfl (Nat.le_of_ble_eq_true rfl) d_Me_changeSum_49 (fun H locs hZ => ?_)
        refine lv_icmp_ge (tgt := 92) hx0 hb d_Me_changeSum_52 (by decide) (fun c43_2 => ?_) (fun c43_2 => ?_)
        · replace h := (if_pos c43_2).symm.trans h
          obtain rfl := Option.some.inj h
          exact hx _ _ _ hZ (lv_sub hl [3, 4, 5, 6] rfl)
        · replace h := (if_neg c43_2).symm.trans h
          refine lv_aload_n hx0 hb d_Me_changeSum_55 rfl (lv_at hl 5 rfl) ?_
          refine lv_aload hx0 hb d_Me_changeSum_56 (lv_at hl 2 rfl) ?_
          refine lv_iload_n hx0 hb d_Me_changeSum_58 rfl (lv_at hl 6 rfl) ?_
          refine lv_aload_n hx0 hb d_Me_changeSum_59 rfl (lv_at hl 5 rfl) ?_
          refine fg_Me_rows hx0 hb hts hown hZ d_Me_changeSum_60 ?_
          refine lv_iload hx0 hb d_Me_changeSum_63 (lv_at hl 0 rfl) ?_
          obtain ⟨q43_3, hc43_7, h⟩ := bnd_some h
          refine k_Me_Rw_at [.int x8_43] hx0 hb hml hts hown (c_Rw_at l G x8_43 M_43 q43_3 hc43_7) hZ rfl rfl ⟨Nat.le_of_ble_eq_true rfl, Nat.le_of_ble_eq_true rfl⟩ hl.1 rfl (Nat.le_of_ble_eq_true rfl) d_Me_changeSum_65 (fun H locs hZ => ?_)
          refine lv_iload_n hx0 hb d_Me_changeSum_68 rfl (lv_at hl 6 rfl) ?_
          obtain ⟨hi43_4, h⟩ := chk_some h
          refine z_ialoadC (k := q43_3) hx0 hb hZ hi43_4 d_Me_changeSum_69 ?_
          obtain ⟨q43_5, hc43_6, h⟩ := bnd_some h
          refine k_Me_Me_sumWith [.ref (G.1 q5_3), .int a1, .int (M_43.1 q43_3 (Int32.toNatClampNeg a1))] hx0 hb hml hts hown (c_Me_sumWith l G q5_3 a1 (M_43.1 q43_3 (Int32.toNatClampNeg a1)) M_43 q43_5 hc43_6) hZ rfl rfl ⟨Nat.le_of_ble_eq_true rfl, Nat.le_of_ble_eq_true rfl⟩ hl.1 rfl (Nat.le_of_ble_eq_true rfl) d_Me_changeSum_70 (fun H locs hZ => ?_)
          refine lv_lload hx0 hb d_Me_changeSum_73 (lv_at hl 1 rfl) ?_
          refine lv_lsub hx0 hb d_Me_changeSum_75 ?_
          refine lv_lstore (lv' := [(9, .long (q43_5.1 - (Int32.toInt64 q5_4))), (8, .int x8_43), (6, .long (Int32.toInt64 q5_4)), (5, .ref (G.1 q5_3)), (4, .int x4_5), (2, .long x2_43), (0, .ref (G.1 19)), (1, .int a1)]) hx0 hb d_Me_changeSum_76 hl (by decide) rfl (fun ls hl => ?_)
          refine lv_lload_n hx0 hb d_Me_changeSum_78 rfl (lv_at hl 5 rfl) ?_
          refine lv_lload hx0 hb d_Me_changeSum_79 (lv_at hl 0 rfl) ?_
          refine lv_lload hx0 hb d_Me_changeSum_81 (lv_at hl 0 rfl) ?_
          refine lv_lmul hx0 hb d_Me_changeSum_83 ?_
          refine lv_ladd hx0 hb d_Me_changeSum_84 ?_
          refine lv_lstore_n (lv' := [(2, .long (x2_43 + ((q43_5.1 - (Int32.toInt64 q5_4)) * (q43_5.1 - (Int32.toInt64 q5_4))))), (9, .long (q43_5.1 - (Int32.toInt64 q5_4))), (8, .int x8_43), (6, .long (Int32.toInt64 q5_4)), (5, .ref (G.1 q5_3)), (4, .int x4_5), (0, .ref (G.1 19)), (1, .int a1)]) hx0 hb d_Me_changeSum_85 rfl hl (by decide) rfl (fun ls hl => ?_)
          refine lv_iinc (v := (x8_43 + (1 : Int32))) (lv' := [(8, .int (x8_43 + (1 : Int32))), (2, .long (x2_43 + ((q43_5.1 - (Int32.toInt64 q5_4)) * (q43_5.1 - (Int32.toInt64 q5_4))))), (9, .long (q43_5.1 - (Int32.toInt64 q5_4))), (6, .long (Int32.toInt64 q5_4)), (5, .ref (G.1 q5_3)), (4, .int x4_5), (0, .ref (G.1 19)), (1, .int a1)]) hx0 hb d_Me_changeSum_86 hl (k := 2) rfl rfl (by decide) rfl (fun ls hl => ?_)
          refine lv_goto (tgt := 43) hx0 hb d_Me_changeSum_89 (by decide) ?_
          obtain rfl := Option.some.inj h
          exact hx _ _ _ hZ (lv_sub hl [0, 3, 4, 5, 1, 6, 7] rfl)
      · replace hZ : ZZC G s q5_5.2.2 H locs := hZ
        replace hl : lv_has ls 11 [(4, .int x4_5), (2, .long q5_5.1), (0, .ref (G.1 19)), (1, .int a1)] := hl
        refine lv_iinc (v := (x4_5 + (1 : Int32))) (lv' := [(4, .int (x4_5 + (1 : Int32))), (2, .long q5_5.1), (0, .ref (G.1 19)), (1, .int a1)]) hx0 hb d_Me_changeSum_92 hl (k := 0) rfl rfl (by decide) rfl (fun ls hl => ?_)
        refine lv_goto (tgt := 5) hx0 hb d_Me_changeSum_95 (by decide) ?_
        obtain rfl := Option.some.inj h
        exact hx _ _ _ hZ (lv_sub hl [0, 1, 2, 3] rfl)
  · replace hZ : ZZC G s q1.2.2 H locs := hZ
    replace hl : lv_has ls 11 [(2, .long q1.1)] := hl
    refine lv_lload_n hx0 hb d_Me_changeSum_98 rfl (lv_at hl 0 rfl) ?_
    obtain rfl := Option.some.inj h
    exact z_lretC hx0 hb hr hZ hlocks hQ d_Me_changeSum_99
abbrev rm_Se_unbarAll : Room := ({ frames := 0, cells := 0, slots := 0, locals := 0 } : Room)
set_option maxHeartbeats 4000000 in
set_option maxRecDepth 100000 in
theorem c_Se_unbarAll (l : Launch) (G : zG)  (M : Mem) (r : Mem) (h : p_Se_unbarAll  M = some r) : MetZC l G y_Se_unbarAll (Cond.code y_Se_unbarAll b_Se_unbarAll 2 none :: zws) rm_Se_unbarAll [.ref (G.1 24)] M none r := by
  unfold p_Se_unbarAll at h
  refine z_ofWC (lv := [(0, .ref (G.1 24))]) (by decide) (Nat.le_of_ble_eq_true rfl) rfl (fun p e R s m args below meth c Q ls F hl hZ => ?_)
  obtain ⟨hx0, hb, hml, hr, hts, hown, hlocks, rfl, hQ⟩ := F
  refine lv_iconst (v := (0 : Int32)) hx0 hb d_Se_unbarAll_0 (by decide) ?_
  refine lv_istore_n (lv' := [(1, .int (0 : Int32)), (0, .ref (G.1 24))]) hx0 hb d_Se_unbarAll_1 rfl hl (by decide) rfl (fun ls hl => ?_)
  obtain ⟨q1, hq2, h⟩ := bnd_some h
  refine W_itr (At := fun (s0 : Int32 × Mem) => ∀ (H : Heap) (locs : List Loc) (ls : Array Slot), ZZC G s s0.2 H locs → lv_has ls 2 [(1, .int s0.1), (0, .ref (G.1 24))] → W p l e rm_Se_unbarAll s m args below meth c H locs 0 0 Q (F0 m 2 ls [])) (Ex := fun (q0 : Int32 × Mem) => ∀ (H : Heap) (locs : List Loc) (ls : Array Slot), ZZC G s q0.2 H locs → lv_has ls 2 [] → W p l e rm_Se_unbarAll s m args below meth c H locs 0 0 Q (F0 m 21 ls [])) (fun s0 x h hx => ?_) _ _ q1 hq2 (fun H locs ls hZ hl => ?_) _ _ _ hZ (lv_sub hl [0, 1] rfl)
  · obtain ⟨x1_2, M_2⟩ := s0
    replace h : p_Se_unbarAll_L2 x1_2 M_2 = some x := h
    unfold p_Se_unbarAll_L2 at h
    intro H locs ls hZ hl
    replace hZ : ZZC G s M_2 H locs := hZ
    replace hl : lv_has ls 2 [(1, .int x1_2), (0, .ref (G.1 24))] := hl
    refine lv_iload_n hx0 hb d_Se_unbarAll_2 rfl (lv_at hl 0 rfl) ?_
    refine lv_bipush (v := (6 : Int32)) hx0 hb d_Se_unbarAll_3 (by decide) ?_
    refine lv_icmp_ge (tgt := 21) hx0 hb d_Se_unbarAll_5 (by decide) (fun c2_1 => ?_) (fun c2_1 => ?_)
    · replace h := (if_pos c2_1).symm.trans h
      obtain rfl := Option.some.inj h
      exact hx _ _ _ hZ (lv_sub hl [] rfl)
    · replace h := (if_neg c2_1).symm.trans h
      refine lv_aload_n hx0 hb d_Se_unbarAll_8 rfl (lv_at hl 1 rfl) ?_
      refine fg_Se_barred hx0 hb hts hown hZ d_Se_unbarAll_9 ?_
      refine lv_iload_n hx0 hb d_Se_unbarAll_12 rfl (lv_at hl 0 rfl) ?_
      refine lv_iconst (v := (0 : Int32)) hx0 hb d_Se_unbarAll_13 (by decide) ?_
      obtain ⟨hi2_2, h⟩ := chk_some h
      refine z_bastoreC (k := 25) hx0 hb hZ hi2_2 d_Se_unbarAll_14 (fun H locs hZ => ?_)
      obtain ⟨m2_3, em2_3, h⟩ := nm_some h
      rw [em2_3] at hZ
      refine lv_iinc (v := (x1_2 + (1 : Int32))) (lv' := [(1, .int (x1_2 + (1 : Int32))), (0, .ref (G.1 24))]) hx0 hb d_Se_unbarAll_15 hl (k := 0) rfl rfl (by decide) rfl (fun ls hl => ?_)
      refine lv_goto (tgt := 2) hx0 hb d_Se_unbarAll_18 (by decide) ?_
      obtain rfl := Option.some.inj h
      exact hx _ _ _ hZ (lv_sub hl [0, 1] rfl)
  · replace hZ : ZZC G s q1.2 H locs := hZ
    replace hl : lv_has ls 2 [] := hl
    obtain rfl := Option.some.inj h
    exact z_vretC hx0 hb hr hZ hlocks hQ d_Se_unbarAll_21
abbrev rm_Se_setBarred : Room := ({ frames := 0, cells := 0, slots := 0, locals := 0 } : Room)
set_option maxHeartbeats 4000000 in
set_option maxRecDepth 100000 in
theorem c_Se_setBarred (l : Launch) (G : zG) (a1 : Int32) (a2 : Int32) (M : Mem) (r : Int32 × Mem) (h : p_Se_setBarred a1 a2 M = some r) : MetZC l G y_Se_setBarred (Cond.code y_Se_setBarred b_Se_setBarred 4 (some .boolean) :: zws) rm_Se_setBarred [.ref (G.1 24), .int a1, .int a2] M (some (.int r.1)) r.2 := by
  unfold p_Se_setBarred at h
  refine z_ofWC (lv := [(0, .ref (G.1 24)), (1, .int a1), (2, .int a2)]) (by decide) (Nat.le_of_ble_eq_true rfl) rfl (fun p e R s m args below meth c Q ls F hl hZ => ?_)
  obtain ⟨hx0, hb, hml, hr, hts, hown, hlocks, rfl, hQ⟩ := F
  refine lv_aload_n hx0 hb d_Se_setBarred_0 rfl (lv_at hl 0 rfl) ?_
  refine fg_Se_barred hx0 hb hts hown hZ d_Se_setBarred_1 ?_
  refine lv_iload_n hx0 hb d_Se_setBarred_4 rfl (lv_at hl 1 rfl) ?_
  obtain ⟨hi1, h⟩ := chk_some h
  refine z_baloadC (k := 25) hx0 hb hZ hi1 d_Se_setBarred_5 ?_
  refine lv_istore_n (lv' := [(3, .int (M.1 25 (Int32.toNatClampNeg a1))), (0, .ref (G.1 24)), (1, .int a1), (2, .int a2)]) hx0 hb d_Se_setBarred_6 rfl hl (by decide) rfl (fun ls hl => ?_)
  refine lv_aload_n hx0 hb d_Se_setBarred_7 rfl (lv_at hl 1 rfl) ?_
  refine fg_Se_barred hx0 hb hts hown hZ d_Se_setBarred_8 ?_
  refine lv_iload_n hx0 hb d_Se_setBarred_11 rfl (lv_at hl 2 rfl) ?_
  refine lv_iload_n hx0 hb d_Se_setBarred_12 rfl (lv_at hl 3 rfl) ?_
  obtain ⟨hi2, h⟩ := chk_some h
  refine z_bastoreC (k := 25) hx0 hb hZ hi2 d_Se_setBarred_13 (fun H locs hZ => ?_)
  obtain ⟨m3, em3, h⟩ := nm_some h
  rw [em3] at hZ
  refine lv_iload_n hx0 hb d_Se_setBarred_14 rfl (lv_at hl 0 rfl) ?_
  obtain ⟨hz4, h⟩ := chk_some h
  obtain rfl := Option.some.inj h
  exact z_zretC hx0 hb hr hZ hlocks hQ (zbl_ok hz4) d_Se_setBarred_15
abbrev rm_Se_addChoice : Room := ({ frames := 0, cells := 0, slots := 0, locals := 0 } : Room)
set_option maxHeartbeats 4000000 in
set_option maxRecDepth 100000 in
theorem c_Se_addChoice (l : Launch) (G : zG) (a1 : Int32) (a2 : Int32) (M : Mem) (r : Mem) (h : p_Se_addChoice a1 a2 M = some r) : MetZC l G y_Se_addChoice (Cond.code y_Se_addChoice b_Se_addChoice 8 none :: zws) rm_Se_addChoice [.ref (G.1 24), .int a1, .int a2] M none r := by
  unfold p_Se_addChoice at h
  refine z_ofWC (lv := [(0, .ref (G.1 24)), (1, .int a1), (2, .int a2)]) (by decide) (Nat.le_of_ble_eq_true rfl) rfl (fun p e R s m args below meth c Q ls F hl hZ => ?_)
  obtain ⟨hx0, hb, hml, hr, hts, hown, hlocks, rfl, hQ⟩ := F
  refine lv_aload_n hx0 hb d_Se_addChoice_0 rfl (lv_at hl 0 rfl) ?_
  refine fg_Se_choices hx0 hb hts hown hZ d_Se_addChoice_1 ?_
  refine lv_iload_n hx0 hb d_Se_addChoice_4 rfl (lv_at hl 1 rfl) ?_
  obtain ⟨hi1, h⟩ := chk_some h
  refine z_aaload_C26 hx0 hb hZ hi1 d_Se_addChoice_5 ?_
  refine lv_astore_n (lv' := [(3, .ref (G.1 (27 + Int32.toNatClampNeg a1))), (0, .ref (G.1 24)), (1, .int a1), (2, .int a2)]) hx0 hb d_Se_addChoice_6 rfl hl (by decide) rfl (fun ls hl => ?_)
  refine lv_aload_n hx0 hb d_Se_addChoice_7 rfl (lv_at hl 1 rfl) ?_
  refine fg_Se_choiceCounts hx0 hb hts hown hZ d_Se_addChoice_8 ?_
  refine lv_iload_n hx0 hb d_Se_addChoice_11 rfl (lv_at hl 2 rfl) ?_
  obtain ⟨hi2, h⟩ := chk_some h
  refine z_ialoadC (k := 33) hx0 hb hZ hi2 d_Se_addChoice_12 ?_
  refine lv_istore (lv' := [(4, .int (M.1 33 (Int32.toNatClampNeg a1))), (3, .ref (G.1 (27 + Int32.toNatClampNeg a1))), (0, .ref (G.1 24)), (1, .int a1), (2, .int a2)]) hx0 hb d_Se_addChoice_13 hl (by decide) rfl (fun ls hl => ?_)
  refine lv_iconst (v := (0 : Int32)) hx0 hb d_Se_addChoice_15 (by decide) ?_
  refine lv_istore (lv' := [(5, .int (0 : Int32)), (4, .int (M.1 33 (Int32.toNatClampNeg a1))), (3, .ref (G.1 (27 + Int32.toNatClampNeg a1))), (0, .ref (G.1 24)), (1, .int a1), (2, .int a2)]) hx0 hb d_Se_addChoice_16 hl (by decide) rfl (fun ls hl => ?_)
  obtain ⟨q3, hq24, h⟩ := bnd_some h
  refine W_itr (At := fun (s0 : Int32) => ∀ (H : Heap) (locs : List Loc) (ls : Array Slot), ZZC G s M H locs → lv_has ls 8 [(5, .int s0), (4, .int (M.1 33 (Int32.toNatClampNeg a1))), (3, .ref (G.1 (27 + Int32.toNatClampNeg a1))), (0, .ref (G.1 24)), (1, .int a1), (2, .int a2)] → W p l e rm_Se_addChoice s m args below meth c H locs 0 0 Q (F0 m 18 ls [])) (Ex := fun (q0 : Int32) => ∀ (H : Heap) (locs : List Loc) (ls : Array Slot), ZZC G s M H locs → lv_has ls 8 [(5, .int q0), (4, .int (M.1 33 (Int32.toNatClampNeg a1))), (3, .ref (G.1 (27 + Int32.toNatClampNeg a1))), (0, .ref (G.1 24)), (1, .int a1), (2, .int a2)] → W p l e rm_Se_addChoice s m args below meth c H locs 0 0 Q (F0 m 39 ls [])) (fun s0 x h hx => ?_) _ _ q3 hq24 (fun H locs ls hZ hl => ?_) _ _ _ hZ (lv_sub hl [0, 1, 2, 3, 4, 5] rfl)
  · obtain ⟨x5_18, rfl⟩ : ∃ z, z = s0 := ⟨_, rfl⟩
    replace h : p_Se_addChoice_L18 a1 a2 M x5_18 = some x := h
    unfold p_Se_addChoice_L18 at h
    intro H locs ls hZ hl
    replace hZ : ZZC G s M H locs := hZ
    replace hl : lv_has ls 8 [(5, .int x5_18), (4, .int (M.1 33 (Int32.toNatClampNeg a1))), (3, .ref (G.1 (27 + Int32.toNatClampNeg a1))), (0, .ref (G.1 24)), (1, .int a1), (2, .int a2)] := hl
    refine lv_iload hx0 hb d_Se_addChoice_18 (lv_at hl 0 rfl) ?_
    refine lv_iload hx0 hb d_Se_addChoice_20 (lv_at hl 1 rfl) ?_
    refine lv_icmp_ge (tgt := 39) hx0 hb d_Se_addChoice_22 (by decide) (fun c18_1 => ?_) (fun c18_1 => ?_)
    · replace h := (if_pos c18_1).symm.trans h
      obtain rfl := Option.some.inj h
      exact hx _ _ _ hZ (lv_sub hl [0, 1, 2, 3, 4, 5] rfl)
    · replace h := (if_neg c18_1).symm.trans h
      refine lv_aload_n hx0 hb d_Se_addChoice_25 rfl (lv_at hl 2 rfl) ?_
      refine lv_iload hx0 hb d_Se_addChoice_26 (lv_at hl 0 rfl) ?_
      obtain ⟨hi18_2, h⟩ := chk_some h
      refine z_ialoadC (k := (27 + Int32.toNatClampNeg a1)) hx0 hb hZ hi18_2 d_Se_addChoice_28 ?_
      refine lv_iload_n hx0 hb d_Se_addChoice_29 rfl (lv_at hl 5 rfl) ?_
      refine lv_icmp_ge (tgt := 39) hx0 hb d_Se_addChoice_30 (by decide) (fun c18_3 => ?_) (fun c18_3 => ?_)
      · replace h := (if_pos c18_3).symm.trans h
        obtain rfl := Option.some.inj h
        exact hx _ _ _ hZ (lv_sub hl [0, 1, 2, 3, 4, 5] rfl)
      · replace h := (if_neg c18_3).symm.trans h
        refine lv_iinc (v := (x5_18 + (1 : Int32))) (lv' := [(5, .int (x5_18 + (1 : Int32))), (4, .int (M.1 33 (Int32.toNatClampNeg a1))), (3, .ref (G.1 (27 + Int32.toNatClampNeg a1))), (0, .ref (G.1 24)), (1, .int a1), (2, .int a2)]) hx0 hb d_Se_addChoice_33 hl (k := 0) rfl rfl (by decide) rfl (fun ls hl => ?_)
        refine lv_goto (tgt := 18) hx0 hb d_Se_addChoice_36 (by decide) ?_
        obtain rfl := Option.some.inj h
        exact hx _ _ _ hZ (lv_sub hl [0, 1, 2, 3, 4, 5] rfl)
  · replace hZ : ZZC G s M H locs := hZ
    replace hl : lv_has ls 8 [(5, .int q3), (4, .int (M.1 33 (Int32.toNatClampNeg a1))), (3, .ref (G.1 (27 + Int32.toNatClampNeg a1))), (0, .ref (G.1 24)), (1, .int a1), (2, .int a2)] := hl
    refine lv_iload hx0 hb d_Se_addChoice_39 (lv_at hl 0 rfl) ?_
    refine lv_iload hx0 hb d_Se_addChoice_41 (lv_at hl 1 rfl) ?_
    refine lv_icmp_ge (tgt := 58) hx0 hb d_Se_addChoice_43 (by decide) (fun c4 => ?_) (fun c4 => ?_)
    · replace h := (if_pos c4).symm.trans h
      refine lv_iconst (v := (0 : Int32)) hx0 hb d_Se_addChoice_58 (by decide) ?_
      refine lv_istore (lv' := [(6, .int (0 : Int32)), (5, .int q3), (4, .int (M.1 33 (Int32.toNatClampNeg a1))), (3, .ref (G.1 (27 + Int32.toNatClampNeg a1))), (0, .ref (G.1 24)), (1, .int a1), (2, .int a2)]) hx0 hb d_Se_addChoice_59 hl (by decide) rfl (fun ls hl => ?_)
      refine lv_iload hx0 hb d_Se_addChoice_61 (lv_at hl 0 rfl) ?_
      refine lv_if_ne (tgt := 73) hx0 hb d_Se_addChoice_63 (by decide) (fun c5 => ?_) (fun c5 => ?_)
      · exact absurd c5 (by decide)
      · refine lv_iload hx0 hb d_Se_addChoice_66 (lv_at hl 2 rfl) ?_
        refine lv_aload_n hx0 hb d_Se_addChoice_68 rfl (lv_at hl 3 rfl) ?_
        obtain ⟨hi6, h⟩ := chk_some h
        refine z_alenC (k := (27 + Int32.toNatClampNeg a1)) hx0 hb hZ (of_decide_eq_true hi6) d_Se_addChoice_69 ?_
        refine lv_icmp_lt (tgt := 74) hx0 hb d_Se_addChoice_70 (by decide) (fun c7 => ?_) (fun c7 => ?_)
        · replace h := (if_pos c7).symm.trans h
          refine lv_iload hx0 hb d_Se_addChoice_74 (lv_at hl 2 rfl) ?_
          refine lv_istore (lv' := [(7, .int (M.1 33 (Int32.toNatClampNeg a1))), (6, .int (0 : Int32)), (5, .int q3), (4, .int (M.1 33 (Int32.toNatClampNeg a1))), (3, .ref (G.1 (27 + Int32.toNatClampNeg a1))), (0, .ref (G.1 24)), (1, .int a1), (2, .int a2)]) hx0 hb d_Se_addChoice_76 hl (by decide) rfl (fun ls hl => ?_)
          obtain ⟨q8, hq25, h⟩ := bnd_some h
          refine W_itr (At := fun (s0 : Int32 × Mem) => ∀ (H : Heap) (locs : List Loc) (ls : Array Slot), ZZC G s s0.2 H locs → lv_has ls 8 [(7, .int s0.1), (5, .int q3), (4, .int (M.1 33 (Int32.toNatClampNeg a1))), (3, .ref (G.1 (27 + Int32.toNatClampNeg a1))), (0, .ref (G.1 24)), (1, .int a1), (2, .int a2)] → W p l e rm_Se_addChoice s m args below meth c H locs 0 0 Q (F0 m 78 ls [])) (Ex := fun (q0 : Int32 × Mem) => ∀ (H : Heap) (locs : List Loc) (ls : Array Slot), ZZC G s q0.2 H locs → lv_has ls 8 [(5, .int q3), (4, .int (M.1 33 (Int32.toNatClampNeg a1))), (3, .ref (G.1 (27 + Int32.toNatClampNeg a1))), (0, .ref (G.1 24)), (1, .int a1), (2, .int a2)] → W p l e rm_Se_addChoice s m args below meth c H locs 0 0 Q (F0 m 101 ls [])) (fun s0 x h hx => ?_) _ _ q8 hq25 (fun H locs ls hZ hl => ?_) _ _ _ hZ (lv_sub hl [0, 2, 3, 4, 5, 6, 7] rfl)
          · obtain ⟨x7_78, M_78⟩ := s0
            replace h : p_Se_addChoice_L78 a1 q3 x7_78 M_78 = some x := h
            unfold p_Se_addChoice_L78 at h
            intro H locs ls hZ hl
            replace hZ : ZZC G s M_78 H locs := hZ
            replace hl : lv_has ls 8 [(7, .int x7_78), (5, .int q3), (4, .int (M.1 33 (Int32.toNatClampNeg a1))), (3, .ref (G.1 (27 + Int32.toNatClampNeg a1))), (0, .ref (G.1 24)), (1, .int a1), (2, .int a2)] := hl
            refine lv_iload hx0 hb d_Se_addChoice_78 (lv_at hl 0 rfl) ?_
            refine lv_iload hx0 hb d_Se_addChoice_80 (lv_at hl 1 rfl) ?_
            refine lv_icmp_le (tgt := 101) hx0 hb d_Se_addChoice_82 (by decide) (fun c78_1 => ?_) (fun c78_1 => ?_)
            · replace h := (if_pos c78_1).symm.trans h
              obtain rfl := Option.some.inj h
              exact hx _ _ _ hZ (lv_sub hl [1, 2, 3, 4, 5, 6] rfl)
            · replace h := (if_neg c78_1).symm.trans h
              refine lv_aload_n hx0 hb d_Se_addChoice_85 rfl (lv_at hl 3 rfl) ?_
              refine lv_iload hx0 hb d_Se_addChoice_86 (lv_at hl 0 rfl) ?_
              refine lv_aload_n hx0 hb d_Se_addChoice_88 rfl (lv_at hl 3 rfl) ?_
              refine lv_iload hx0 hb d_Se_addChoice_89 (lv_at hl 0 rfl) ?_
              refine lv_iconst (v := (1 : Int32)) hx0 hb d_Se_addChoice_91 (by decide) ?_
              refine lv_isub hx0 hb d_Se_addChoice_92 ?_
              obtain ⟨hi78_2, h⟩ := chk_some h
              refine z_ialoadC (k := (27 + Int32.toNatClampNeg a1)) hx0 hb hZ hi78_2 d_Se_addChoice_93 ?_
              obtain ⟨hi78_3, h⟩ := chk_some h
              refine z_iastoreC (k := (27 + Int32.toNatClampNeg a1)) hx0 hb hZ hi78_3 d_Se_addChoice_94 (fun H locs hZ => ?_)
              obtain ⟨m78_4, em78_4, h⟩ := nm_some h
              rw [em78_4] at hZ
              refine lv_iinc (v := (x7_78 + (-1 : Int32))) (lv' := [(7, .int (x7_78 + (-1 : Int32))), (5, .int q3), (4, .int (M.1 33 (Int32.toNatClampNeg a1))), (3, .ref (G.1 (27 + Int32.toNatClampNeg a1))), (0, .ref (G.1 24)), (1, .int a1), (2, .int a2)]) hx0 hb d_Se_addChoice_95 hl (k := 0) rfl rfl (by decide) rfl (fun ls hl => ?_)
              refine lv_goto (tgt := 78) hx0 hb d_Se_addChoice_98 (by decide) ?_
              obtain rfl := Option.some.inj h
              exact hx _ _ _ hZ (lv_sub hl [0, 1, 2, 3, 4, 5, 6] rfl)
          · replace hZ : ZZC G s q8.2 H locs := hZ
            replace hl : lv_has ls 8 [(5, .int q3), (4, .int (M.1 33 (Int32.toNatClampNeg a1))), (3, .ref (G.1 (27 + Int32.toNatClampNeg a1))), (0, .ref (G.1 24)), (1, .int a1), (2, .int a2)] := hl
            refine lv_aload_n hx0 hb d_Se_addChoice_101 rfl (lv_at hl 2 rfl) ?_
            refine lv_iload hx0 hb d_Se_addChoice_102 (lv_at hl 0 rfl) ?_
            refine lv_iload_n hx0 hb d_Se_addChoice_104 rfl (lv_at hl 5 rfl) ?_
            obtain ⟨hi9, h⟩ := chk_some h
            refine z_iastoreC (k := (27 + Int32.toNatClampNeg a1)) hx0 hb hZ hi9 d_Se_addChoice_105 (fun H locs hZ => ?_)
            obtain ⟨m10, em10, h⟩ := nm_some h
            rw [em10] at hZ
            refine lv_aload_n hx0 hb d_Se_addChoice_106 rfl (lv_at hl 3 rfl) ?_
            refine fg_Se_choiceCounts hx0 hb hts hown hZ d_Se_addChoice_107 ?_
            refine lv_iload_n hx0 hb d_Se_addChoice_110 rfl (lv_at hl 4 rfl) ?_
            refine lv_iload hx0 hb d_Se_addChoice_111 (lv_at hl 1 rfl) ?_
            refine lv_iconst (v := (1 : Int32)) hx0 hb d_Se_addChoice_113 (by decide) ?_
            refine lv_iadd hx0 hb d_Se_addChoice_114 ?_
            obtain ⟨hi11, h⟩ := chk_some h
            refine z_iastoreC (k := 33) hx0 hb hZ hi11 d_Se_addChoice_115 (fun H locs hZ => ?_)
            obtain ⟨m12, em12, h⟩ := nm_some h
            rw [em12] at hZ
            obtain rfl := Option.some.inj h
            exact z_vretC hx0 hb hr hZ hlocks hQ d_Se_addChoice_116
        · replace h := (if_neg c7).symm.trans h
          obtain rfl := Option.some.inj h
          exact z_vretC hx0 hb hr hZ hlocks hQ d_Se_addChoice_73
    · replace h := (if_neg c4).symm.trans h
      refine lv_aload_n hx0 hb d_Se_addChoice_46 rfl (lv_at hl 2 rfl) ?_
      refine lv_iload hx0 hb d_Se_addChoice_47 (lv_at hl 0 rfl) ?_
      obtain ⟨hi13, h⟩ := chk_some h
      refine z_ialoadC (k := (27 + Int32.toNatClampNeg a1)) hx0 hb hZ hi13 d_Se_addChoice_49 ?_
      refine lv_iload_n hx0 hb d_Se_addChoice_50 rfl (lv_at hl 5 rfl) ?_
      refine lv_icmp_ne (tgt := 58) hx0 hb d_Se_addChoice_51 (by decide) (fun c14 => ?_) (fun c14 => ?_)
      · replace h := (if_neg c14).symm.trans h
        refine lv_iconst (v := (0 : Int32)) hx0 hb d_Se_addChoice_58 (by decide) ?_
        refine lv_istore (lv' := [(6, .int (0 : Int32)), (5, .int q3), (4, .int (M.1 33 (Int32.toNatClampNeg a1))), (3, .ref (G.1 (27 + Int32.toNatClampNeg a1))), (0, .ref (G.1 24)), (1, .int a1), (2, .int a2)]) hx0 hb d_Se_addChoice_59 hl (by decide) rfl (fun ls hl => ?_)
        refine lv_iload hx0 hb d_Se_addChoice_61 (lv_at hl 0 rfl) ?_
        refine lv_if_ne (tgt := 73) hx0 hb d_Se_addChoice_63 (by decide) (fun c15 => ?_) (fun c15 => ?_)
        · exact absurd c15 (by decide)
        · refine lv_iload hx0 hb d_Se_addChoice_66 (lv_at hl 2 rfl) ?_
          refine lv_aload_n hx0 hb d_Se_addChoice_68 rfl (lv_at hl 3 rfl) ?_
          obtain ⟨hi16, h⟩ := chk_some h
          refine z_alenC (k := (27 + Int32.toNatClampNeg a1)) hx0 hb hZ (of_decide_eq_true hi16) d_Se_addChoice_69 ?_
          refine lv_icmp_lt (tgt := 74) hx0 hb d_Se_addChoice_70 (by decide) (fun c17 => ?_) (fun c17 => ?_)
          · replace h := (if_pos c17).symm.trans h
            refine lv_iload hx0 hb d_Se_addChoice_74 (lv_at hl 2 rfl) ?_
            refine lv_istore (lv' := [(7, .int (M.1 33 (Int32.toNatClampNeg a1))), (6, .int (0 : Int32)), (5, .int q3), (4, .int (M.1 33 (Int32.toNatClampNeg a1))), (3, .ref (G.1 (27 + Int32.toNatClampNeg a1))), (0, .ref (G.1 24)), (1, .int a1), (2, .int a2)]) hx0 hb d_Se_addChoice_76 hl (by decide) rfl (fun ls hl => ?_)
            obtain ⟨q18, hq26, h⟩ := bnd_some h
            refine W_itr (At := fun (s0 : Int32 × Mem) => ∀ (H : Heap) (locs : List Loc) (ls : Array Slot), ZZC G s s0.2 H locs → lv_has ls 8 [(7, .int s0.1), (5, .int q3), (4, .int (M.1 33 (Int32.toNatClampNeg a1))), (3, .ref (G.1 (27 + Int32.toNatClampNeg a1))), (0, .ref (G.1 24)), (1, .int a1), (2, .int a2)] → W p l e rm_Se_addChoice s m args below meth c H locs 0 0 Q (F0 m 78 ls [])) (Ex := fun (q0 : Int32 × Mem) => ∀ (H : Heap) (locs : List Loc) (ls : Array Slot), ZZC G s q0.2 H locs → lv_has ls 8 [(5, .int q3), (4, .int (M.1 33 (Int32.toNatClampNeg a1))), (3, .ref (G.1 (27 + Int32.toNatClampNeg a1))), (0, .ref (G.1 24)), (1, .int a1), (2, .int a2)] → W p l e rm_Se_addChoice s m args below meth c H locs 0 0 Q (F0 m 101 ls [])) (fun s0 x h hx => ?_) _ _ q18 hq26 (fun H locs ls hZ hl => ?_) _ _ _ hZ (lv_sub hl [0, 2, 3, 4, 5, 6, 7] rfl)
            · obtain ⟨x7_78, M_78⟩ := s0
              replace h : p_Se_addChoice_L78 a1 q3 x7_78 M_78 = some x := h
              unfold p_Se_addChoice_L78 at h
              intro H locs ls hZ hl
              replace hZ : ZZC G s M_78 H locs := hZ
              replace hl : lv_has ls 8 [(7, .int x7_78), (5, .int q3), (4, .int (M.1 33 (Int32.toNatClampNeg a1))), (3, .ref (G.1 (27 + Int32.toNatClampNeg a1))), (0, .ref (G.1 24)), (1, .int a1), (2, .int a2)] := hl
              refine lv_iload hx0 hb d_Se_addChoice_78 (lv_at hl 0 rfl) ?_
              refine lv_iload hx0 hb d_Se_addChoice_80 (lv_at hl 1 rfl) ?_
              refine lv_icmp_le (tgt := 101) hx0 hb d_Se_addChoice_82 (by decide) (fun c78_1 => ?_) (fun c78_1 => ?_)
              · replace h := (if_pos c78_1).symm.trans h
                obtain rfl := Option.some.inj h
                exact hx _ _ _ hZ (lv_sub hl [1, 2, 3, 4, 5, 6] rfl)
              · replace h := (if_neg c78_1).symm.trans h
                refine lv_aload_n hx0 hb d_Se_addChoice_85 rfl (lv_at hl 3 rfl) ?_
                refine lv_iload hx0 hb d_Se_addChoice_86 (lv_at hl 0 rfl) ?_
                refine lv_aload_n hx0 hb d_Se_addChoice_88 rfl (lv_at hl 3 rfl) ?_
                refine lv_iload hx0 hb d_Se_addChoice_89 (lv_at hl 0 rfl) ?_
                refine lv_iconst (v := (1 : Int32)) hx0 hb d_Se_addChoice_91 (by decide) ?_
                refine lv_isub hx0 hb d_Se_addChoice_92 ?_
                obtain ⟨hi78_2, h⟩ := chk_some h
                refine z_ialoadC (k := (27 + Int32.toNatClampNeg a1)) hx0 hb hZ hi78_2 d_Se_addChoice_93 ?_
                obtain ⟨hi78_3, h⟩ := chk_some h
                refine z_iastoreC (k := (27 + Int32.toNatClampNeg a1)) hx0 hb hZ hi78_3 d_Se_addChoice_94 (fun H locs hZ => ?_)
                obtain ⟨m78_4, em78_4, h⟩ := nm_some h
                rw [em78_4] at hZ
                refine lv_iinc (v := (x7_78 + (-1 : Int32))) (lv' := [(7, .int (x7_78 + (-1 : Int32))), (5, .int q3), (4, .int (M.1 33 (Int32.toNatClampNeg a1))), (3, .ref (G.1 (27 + Int32.toNatClampNeg a1))), (0, .ref (G.1 24)), (1, .int a1), (2, .int a2)]) hx0 hb d_Se_addChoice_95 hl (k := 0) rfl rfl (by decide) rfl (fun ls hl => ?_)
                refine lv_goto (tgt := 78) hx0 hb d_Se_addChoice_98 (by decide) ?_
                obtain rfl := Option.some.inj h
                exact hx _ _ _ hZ (lv_sub hl [0, 1, 2, 3, 4, 5, 6] rfl)
            · replace hZ : ZZC G s q18.2 H locs := hZ
              replace hl : lv_has ls 8 [(5, .int q3), (4, .int (M.1 33 (Int32.toNatClampNeg a1))), (3, .ref (G.1 (27 + Int32.toNatClampNeg a1))), (0, .ref (G.1 24)), (1, .int a1), (2, .int a2)] := hl
              refine lv_aload_n hx0 hb d_Se_addChoice_101 rfl (lv_at hl 2 rfl) ?_
              refine lv_iload hx0 hb d_Se_addChoice_102 (lv_at hl 0 rfl) ?_
              refine lv_iload_n hx0 hb d_Se_addChoice_104 rfl (lv_at hl 5 rfl) ?_
              obtain ⟨hi19, h⟩ := chk_some h
              refine z_iastoreC (k := (27 + Int32.toNatClampNeg a1)) hx0 hb hZ hi19 d_Se_addChoice_105 (fun H locs hZ => ?_)
              obtain ⟨m20, em20, h⟩ := nm_some h
              rw [em20] at hZ
              refine lv_aload_n hx0 hb d_Se_addChoice_106 rfl (lv_at hl 3 rfl) ?_
              refine fg_Se_choiceCounts hx0 hb hts hown hZ d_Se_addChoice_107 ?_
              refine lv_iload_n hx0 hb d_Se_addChoice_110 rfl (lv_at hl 4 rfl) ?_
              refine lv_iload hx0 hb d_Se_addChoice_111 (lv_at hl 1 rfl) ?_
              refine lv_iconst (v := (1 : Int32)) hx0 hb d_Se_addChoice_113 (by decide) ?_
              refine lv_iadd hx0 hb d_Se_addChoice_114 ?_
              obtain ⟨hi21, h⟩ := chk_some h
              refine z_iastoreC (k := 33) hx0 hb hZ hi21 d_Se_addChoice_115 (fun H locs hZ => ?_)
              obtain ⟨m22, em22, h⟩ := nm_some h
              rw [em22] at hZ
              obtain rfl := Option.some.inj h
              exact z_vretC hx0 hb hr hZ hlocks hQ d_Se_addChoice_116
          · replace h := (if_neg c17).symm.trans h
            obtain rfl := Option.some.inj h
            exact z_vretC hx0 hb hr hZ hlocks hQ d_Se_addChoice_73
      · replace h := (if_pos c14).symm.trans h
        refine lv_iconst (v := (1 : Int32)) hx0 hb d_Se_addChoice_54 (by decide) ?_
        refine lv_goto (tgt := 59) hx0 hb d_Se_addChoice_55 (by decide) ?_
        refine lv_istore (lv' := [(6, .int (1 : Int32)), (5, .int q3), (4, .int (M.1 33 (Int32.toNatClampNeg a1))), (3, .ref (G.1 (27 + Int32.toNatClampNeg a1))), (0, .ref (G.1 24)), (1, .int a1), (2, .int a2)]) hx0 hb d_Se_addChoice_59 hl (by decide) rfl (fun ls hl => ?_)
        refine lv_iload hx0 hb d_Se_addChoice_61 (lv_at hl 0 rfl) ?_
        refine lv_if_ne (tgt := 73) hx0 hb d_Se_addChoice_63 (by decide) (fun c23 => ?_) (fun c23 => ?_)
        · obtain rfl := Option.some.inj h
          exact z_vretC hx0 hb hr hZ hlocks hQ d_Se_addChoice_73
        · exact absurd c23 (by decide)
abbrev rm_Se_gatherChoices : Room := ({ frames := 1, cells := 0, slots := 0, locals := 27 } : Room)
set_option maxHeartbeats 4000000 in
set_option maxRecDepth 100000 in
theorem c_Se_gatherChoices (l : Launch) (G : zG) (a1 : Int32) (M : Mem) (r : Mem) (h : p_Se_gatherChoices a1 M = some r) : MetZC l G y_Se_gatherChoices (Cond.code y_Se_gatherChoices b_Se_gatherChoices 3 none :: zws) rm_Se_gatherChoices [.ref (G.1 24), .int a1] M none r := by
  unfold p_Se_gatherChoices at h
  refine z_ofWC (lv := [(0, .ref (G.1 24)), (1, .int a1)]) (by decide) (Nat.le_of_ble_eq_true rfl) rfl (fun p e R s m args below meth c Q ls F hl hZ => ?_)
  obtain ⟨hx0, hb, hml, hr, hts, hown, hlocks, rfl, hQ⟩ := F
  refine lv_aload_n hx0 hb d_Se_gatherChoices_0 rfl (lv_at hl 0 rfl) ?_
  refine fg_Se_choiceCounts hx0 hb hts hown hZ d_Se_gatherChoices_1 ?_
  refine lv_iload_n hx0 hb d_Se_gatherChoices_4 rfl (lv_at hl 1 rfl) ?_
  refine lv_iconst (v := (0 : Int32)) hx0 hb d_Se_gatherChoices_5 (by decide) ?_
  obtain ⟨hi1, h⟩ := chk_some h
  refine z_iastoreC (k := 33) hx0 hb hZ hi1 d_Se_gatherChoices_6 (fun H locs hZ => ?_)
  obtain ⟨m2, em2, h⟩ := nm_some h
  rw [em2] at hZ
  refine lv_aload_n hx0 hb d_Se_gatherChoices_7 rfl (lv_at hl 0 rfl) ?_
  refine lv_iload_n hx0 hb d_Se_gatherChoices_8 rfl (lv_at hl 1 rfl) ?_
  refine lv_aload_n hx0 hb d_Se_gatherChoices_9 rfl (lv_at hl 0 rfl) ?_
  refine fg_Se_rows hx0 hb hts hown hZ d_Se_gatherChoices_10 ?_
  refine lv_iconst (v := (-1 : Int32)) hx0 hb d_Se_gatherChoices_13 (by decide) ?_
  obtain ⟨q3, hc10, h⟩ := bnd_some h
  refine k_Se_Rw_at [.int (-1 : Int32)] hx0 hb hml hts hown (c_Rw_at l G (-1 : Int32) m2 q3 hc10) hZ rfl rfl ⟨Nat.le_of_ble_eq_true rfl, Nat.le_of_ble_eq_true rfl⟩ hl.1 rfl (Nat.le_of_ble_eq_true rfl) d_Se_gatherChoices_14 (fun H locs hZ => ?_)
  refine lv_iload_n hx0 hb d_Se_gatherChoices_17 rfl (lv_at hl 1 rfl) ?_
  obtain ⟨hi4, h⟩ := chk_some h
  refine z_ialoadC (k := q3) hx0 hb hZ hi4 d_Se_gatherChoices_18 ?_
  obtain ⟨q5, hc9, h⟩ := bnd_some h
  refine k_Se_Se_addChoice [.int a1, .int (m2.1 q3 (Int32.toNatClampNeg a1))] hx0 hb hml hts hown (c_Se_addChoice l G a1 (m2.1 q3 (Int32.toNatClampNeg a1)) m2 q5 hc9) hZ rfl rfl ⟨Nat.le_of_ble_eq_true rfl, Nat.le_of_ble_eq_true rfl⟩ hl.1 rfl (Nat.le_of_ble_eq_true rfl) d_Se_gatherChoices_19 (fun H locs hZ => ?_)
  refine lv_aload_n hx0 hb d_Se_gatherChoices_22 rfl (lv_at hl 0 rfl) ?_
  refine fg_Se_barred hx0 hb hts hown hZ d_Se_gatherChoices_23 ?_
  refine lv_iload_n hx0 hb d_Se_gatherChoices_26 rfl (lv_at hl 1 rfl) ?_
  obtain ⟨hi6, h⟩ := chk_some h
  refine z_baloadC (k := 25) hx0 hb hZ hi6 d_Se_gatherChoices_27 ?_
  refine lv_if_eq (tgt := 32) hx0 hb d_Se_gatherChoices_28 (by decide) (fun c7 => ?_) (fun c7 => ?_)
  · replace h := (if_pos c7).symm.trans h
    refine lv_iconst (v := (0 : Int32)) hx0 hb d_Se_gatherChoices_32 (by decide) ?_
    refine lv_istore_n (lv' := [(2, .int (0 : Int32)), (0, .ref (G.1 24)), (1, .int a1)]) hx0 hb d_Se_gatherChoices_33 rfl hl (by decide) rfl (fun ls hl => ?_)
    obtain ⟨q8, hq11, h⟩ := bnd_some h
    refine W_itr (At := fun (s0 : Int32 × Mem) => ∀ (H : Heap) (locs : List Loc) (ls : Array Slot), ZZC G s s0.2 H locs → lv_has ls 3 [(2, .int s0.1), (0, .ref (G.1 24)), (1, .int a1)] → W p l e rm_Se_gatherChoices s m args below meth c H locs 0 0 Q (F0 m 34 ls [])) (Ex := fun (q0 : Int32 × Mem) => ∀ (H : Heap) (locs : List Loc) (ls : Array Slot), ZZC G s q0.2 H locs → lv_has ls 3 [] → W p l e rm_Se_gatherChoices s m args below meth c H locs 0 0 Q (F0 m 66 ls [])) (fun s0 x h hx => ?_) _ _ q8 hq11 (fun H locs ls hZ hl => ?_) _ _ _ hZ (lv_sub hl [0, 1, 2] rfl)
    · obtain ⟨x2_34, M_34⟩ := s0
      replace h : p_Se_gatherChoices_L34 a1 x2_34 M_34 = some x := h
      unfold p_Se_gatherChoices_L34 at h
      intro H locs ls hZ hl
      replace hZ : ZZC G s M_34 H locs := hZ
      replace hl : lv_has ls 3 [(2, .int x2_34), (0, .ref (G.1 24)), (1, .int a1)] := hl
      refine lv_iload_n hx0 hb d_Se_gatherChoices_34 rfl (lv_at hl 0 rfl) ?_
      refine lv_aload_n hx0 hb d_Se_gatherChoices_35 rfl (lv_at hl 1 rfl) ?_
      refine fg_Se_rows hx0 hb hts hown hZ d_Se_gatherChoices_36 ?_
      obtain ⟨q34_1, hc34_8, h⟩ := bnd_some h
      refine k_Se_Rw_count [] hx0 hb hml hts hown (c_Rw_count l G  M_34 q34_1 hc34_8) hZ rfl rfl ⟨Nat.le_of_ble_eq_true rfl, Nat.le_of_ble_eq_true rfl⟩ hl.1 rfl (Nat.le_of_ble_eq_true rfl) d_Se_gatherChoices_39 (fun H locs hZ => ?_)
      refine lv_icmp_ge (tgt := 66) hx0 hb d_Se_gatherChoices_42 (by decide) (fun c34_2 => ?_) (fun c34_2 => ?_)
      · replace h := (if_pos c34_2).symm.trans h
        obtain rfl := Option.some.inj h
        exact hx _ _ _ hZ (lv_sub hl [] rfl)
      · replace h := (if_neg c34_2).symm.trans h
        refine lv_aload_n hx0 hb d_Se_gatherChoices_45 rfl (lv_at hl 1 rfl) ?_
        refine lv_iload_n hx0 hb d_Se_gatherChoices_46 rfl (lv_at hl 2 rfl) ?_
        refine lv_aload_n hx0 hb d_Se_gatherChoices_47 rfl (lv_at hl 1 rfl) ?_
        refine fg_Se_rows hx0 hb hts hown hZ d_Se_gatherChoices_48 ?_
        refine lv_iload_n hx0 hb d_Se_gatherChoices_51 rfl (lv_at hl 0 rfl) ?_
        obtain ⟨q34_3, hc34_7, h⟩ := bnd_some h
        refine k_Se_Rw_at [.int x2_34] hx0 hb hml hts hown (c_Rw_at l G x2_34 M_34 q34_3 hc34_7) hZ rfl rfl ⟨Nat.le_of_ble_eq_true rfl, Nat.le_of_ble_eq_true rfl⟩ hl.1 rfl (Nat.le_of_ble_eq_true rfl) d_Se_gatherChoices_52 (fun H locs hZ => ?_)
        refine lv_iload_n hx0 hb d_Se_gatherChoices_55 rfl (lv_at hl 2 rfl) ?_
        obtain ⟨hi34_4, h⟩ := chk_some h
        refine z_ialoadC (k := q34_3) hx0 hb hZ hi34_4 d_Se_gatherChoices_56 ?_
        obtain ⟨q34_5, hc34_6, h⟩ := bnd_some h
        refine k_Se_Se_addChoice [.int a1, .int (M_34.1 q34_3 (Int32.toNatClampNeg a1))] hx0 hb hml hts hown (c_Se_addChoice l G a1 (M_34.1 q34_3 (Int32.toNatClampNeg a1)) M_34 q34_5 hc34_6) hZ rfl rfl ⟨Nat.le_of_ble_eq_true rfl, Nat.le_of_ble_eq_true rfl⟩ hl.1 rfl (Nat.le_of_ble_eq_true rfl) d_Se_gatherChoices_57 (fun H locs hZ => ?_)
        refine lv_iinc (v := (x2_34 + (1 : Int32))) (lv' := [(2, .int (x2_34 + (1 : Int32))), (0, .ref (G.1 24)), (1, .int a1)]) hx0 hb d_Se_gatherChoices_60 hl (k := 0) rfl rfl (by decide) rfl (fun ls hl => ?_)
        refine lv_goto (tgt := 34) hx0 hb d_Se_gatherChoices_63 (by decide) ?_
        obtain rfl := Option.some.inj h
        exact hx _ _ _ hZ (lv_sub hl [0, 1, 2] rfl)
    · replace hZ : ZZC G s q8.2 H locs := hZ
      replace hl : lv_has ls 3 [] := hl
      obtain rfl := Option.some.inj h
      exact z_vretC hx0 hb hr hZ hlocks hQ d_Se_gatherChoices_66
  · replace h := (if_neg c7).symm.trans h
    obtain rfl := Option.some.inj h
    exact z_vretC hx0 hb hr hZ hlocks hQ d_Se_gatherChoices_31
abbrev rm_Se_open : Room := ({ frames := 0, cells := 0, slots := 0, locals := 0 } : Room)
set_option maxHeartbeats 4000000 in
set_option maxRecDepth 100000 in
theorem c_Se_open (l : Launch) (G : zG) (a1 : Int32) (M : Mem) (r : Mem) (h : p_Se_open a1 M = some r) : MetZC l G y_Se_open (Cond.code y_Se_open b_Se_open 2 none :: zws) rm_Se_open [.ref (G.1 24), .int a1] M none r := by
  unfold p_Se_open at h
  refine z_ofWC (lv := [(0, .ref (G.1 24)), (1, .int a1)]) (by decide) (Nat.le_of_ble_eq_true rfl) rfl (fun p e R s m args below meth c Q ls F hl hZ => ?_)
  obtain ⟨hx0, hb, hml, hr, hts, hown, hlocks, rfl, hQ⟩ := F
  refine lv_aload_n hx0 hb d_Se_open_0 rfl (lv_at hl 0 rfl) ?_
  refine fg_Se_least hx0 hb hts hown hZ d_Se_open_1 ?_
  refine lv_iload_n hx0 hb d_Se_open_4 rfl (lv_at hl 1 rfl) ?_
  refine lv_aload_n hx0 hb d_Se_open_5 rfl (lv_at hl 0 rfl) ?_
  refine fg_Se_choices hx0 hb hts hown hZ d_Se_open_6 ?_
  refine lv_iload_n hx0 hb d_Se_open_9 rfl (lv_at hl 1 rfl) ?_
  obtain ⟨hi1, h⟩ := chk_some h
  refine z_aaload_C26 hx0 hb hZ hi1 d_Se_open_10 ?_
  refine lv_iconst (v := (0 : Int32)) hx0 hb d_Se_open_11 (by decide) ?_
  obtain ⟨hi2, h⟩ := chk_some h
  refine z_ialoadC (k := (27 + Int32.toNatClampNeg a1)) hx0 hb hZ hi2 d_Se_open_12 ?_
  obtain ⟨hi3, h⟩ := chk_some h
  refine z_iastoreC (k := 34) hx0 hb hZ hi3 d_Se_open_13 (fun H locs hZ => ?_)
  obtain ⟨m4, em4, h⟩ := nm_some h
  rw [em4] at hZ
  refine lv_aload_n hx0 hb d_Se_open_14 rfl (lv_at hl 0 rfl) ?_
  refine fg_Se_most hx0 hb hts hown hZ d_Se_open_15 ?_
  refine lv_iload_n hx0 hb d_Se_open_18 rfl (lv_at hl 1 rfl) ?_
  refine lv_aload_n hx0 hb d_Se_open_19 rfl (lv_at hl 0 rfl) ?_
  refine fg_Se_choices hx0 hb hts hown hZ d_Se_open_20 ?_
  refine lv_iload_n hx0 hb d_Se_open_23 rfl (lv_at hl 1 rfl) ?_
  obtain ⟨hi5, h⟩ := chk_some h
  refine z_aaload_C26 hx0 hb hZ hi5 d_Se_open_24 ?_
  refine lv_aload_n hx0 hb d_Se_open_25 rfl (lv_at hl 0 rfl) ?_
  refine fg_Se_choiceCounts hx0 hb hts hown hZ d_Se_open_26 ?_
  refine lv_iload_n hx0 hb d_Se_open_29 rfl (lv_at hl 1 rfl) ?_
  obtain ⟨hi6, h⟩ := chk_some h
  refine z_ialoadC (k := 33) hx0 hb hZ hi6 d_Se_open_30 ?_
  refine lv_iconst (v := (1 : Int32)) hx0 hb d_Se_open_31 (by decide) ?_
  refine lv_isub hx0 hb d_Se_open_32 ?_
  obtain ⟨hi7, h⟩ := chk_some h
  refine z_ialoadC (k := (27 + Int32.toNatClampNeg a1)) hx0 hb hZ hi7 d_Se_open_33 ?_
  obtain ⟨hi8, h⟩ := chk_some h
  refine z_iastoreC (k := 35) hx0 hb hZ hi8 d_Se_open_34 (fun H locs hZ => ?_)
  obtain ⟨m9, em9, h⟩ := nm_some h
  rw [em9] at hZ
  obtain rfl := Option.some.inj h
  exact z_vretC hx0 hb hr hZ hlocks hQ d_Se_open_35
