abbrev rm_Rw_count : Room := ({ frames := 0, cells := 0, slots := 0, locals := 0 } : Room)
set_option maxHeartbeats 4000000 in
set_option maxRecDepth 100000 in
theorem c_Rw_count (l : Launch) (G : zG)  (M : Mem) (r : Int32) (h : p_Rw_count  M = some r) : MetZC l G y_Rw_count (Cond.code y_Rw_count b_Rw_count 1 (some .int) :: zws) rm_Rw_count [.ref (G.1 9)] M (some (.int r)) M := by
  unfold p_Rw_count at h
  refine z_ofWC (lv := [(0, .ref (G.1 9))]) (by decide) (Nat.le_of_ble_eq_true rfl) rfl (fun p e R s m args below meth c Q ls F hl hZ => ?_)
  obtain ⟨hx0, hb, hml, hr, hts, hown, hlocks, rfl, hQ⟩ := F
  refine lv_aload_n hx0 hb d_Rw_count_0 rfl (lv_at hl 0 rfl) ?_
  refine fg_Rw_count hx0 hb hts hown hZ d_Rw_count_1 ?_
  obtain rfl := Option.some.inj h
  exact z_iretC hx0 hb hr hZ hlocks hQ d_Rw_count_4
abbrev rm_Gr_standAlone : Room := ({ frames := 0, cells := 0, slots := 0, locals := 0 } : Room)
set_option maxHeartbeats 4000000 in
set_option maxRecDepth 100000 in
theorem c_Gr_standAlone (l : Launch) (G : zG)  (M : Mem) (r : Mem) (h : p_Gr_standAlone  M = some r) : MetZC l G y_Gr_standAlone (Cond.code y_Gr_standAlone b_Gr_standAlone 2 none :: zws) rm_Gr_standAlone [.ref (G.1 17)] M none r := by
  unfold p_Gr_standAlone at h
  refine z_ofWC (lv := [(0, .ref (G.1 17))]) (by decide) (Nat.le_of_ble_eq_true rfl) rfl (fun p e R s m args below meth c Q ls F hl hZ => ?_)
  obtain ⟨hx0, hb, hml, hr, hts, hown, hlocks, rfl, hQ⟩ := F
  refine lv_iconst (v := (0 : Int32)) hx0 hb d_Gr_standAlone_0 (by decide) ?_
  refine lv_istore_n (lv' := [(1, .int (0 : Int32)), (0, .ref (G.1 17))]) hx0 hb d_Gr_standAlone_1 rfl hl (by decide) rfl (fun ls hl => ?_)
  obtain ⟨q1, hq2, h⟩ := bnd_some h
  refine W_itr (At := fun (s0 : Int32 × Mem) => ∀ (H : Heap) (locs : List Loc) (ls : Array Slot), ZZC G s s0.2 H locs → lv_has ls 2 [(1, .int s0.1), (0, .ref (G.1 17))] → W p l e rm_Gr_standAlone s m args below meth c H locs 0 0 Q (F0 m 2 ls [])) (Ex := fun (q0 : Int32 × Mem) => ∀ (H : Heap) (locs : List Loc) (ls : Array Slot), ZZC G s q0.2 H locs → lv_has ls 2 [] → W p l e rm_Gr_standAlone s m args below meth c H locs 0 0 Q (F0 m 21 ls [])) (fun s0 x h hx => ?_) _ _ q1 hq2 (fun H locs ls hZ hl => ?_) _ _ _ hZ (lv_sub hl [0, 1] rfl)
  · obtain ⟨x1_2, M_2⟩ := s0
    replace h : p_Gr_standAlone_L2 x1_2 M_2 = some x := h
    unfold p_Gr_standAlone_L2 at h
    intro H locs ls hZ hl
    replace hZ : ZZC G s M_2 H locs := hZ
    replace hl : lv_has ls 2 [(1, .int x1_2), (0, .ref (G.1 17))] := hl
    refine lv_iload_n hx0 hb d_Gr_standAlone_2 rfl (lv_at hl 0 rfl) ?_
    refine lv_bipush (v := (6 : Int32)) hx0 hb d_Gr_standAlone_3 (by decide) ?_
    refine lv_icmp_ge (tgt := 21) hx0 hb d_Gr_standAlone_5 (by decide) (fun c2_1 => ?_) (fun c2_1 => ?_)
    · replace h := (if_pos c2_1).symm.trans h
      obtain rfl := Option.some.inj h
      exact hx _ _ _ hZ (lv_sub hl [] rfl)
    · replace h := (if_neg c2_1).symm.trans h
      refine lv_aload_n hx0 hb d_Gr_standAlone_8 rfl (lv_at hl 1 rfl) ?_
      refine fg_Gr_groupOf hx0 hb hts hown hZ d_Gr_standAlone_9 ?_
      refine lv_iload_n hx0 hb d_Gr_standAlone_12 rfl (lv_at hl 0 rfl) ?_
      refine lv_iload_n hx0 hb d_Gr_standAlone_13 rfl (lv_at hl 0 rfl) ?_
      obtain ⟨hi2_2, h⟩ := chk_some h
      refine z_iastoreC (k := 18) hx0 hb hZ hi2_2 d_Gr_standAlone_14 (fun H locs hZ => ?_)
      obtain ⟨m2_3, em2_3, h⟩ := nm_some h
      rw [em2_3] at hZ
      refine lv_iinc (v := (x1_2 + (1 : Int32))) (lv' := [(1, .int (x1_2 + (1 : Int32))), (0, .ref (G.1 17))]) hx0 hb d_Gr_standAlone_15 hl (k := 0) rfl rfl (by decide) rfl (fun ls hl => ?_)
      refine lv_goto (tgt := 2) hx0 hb d_Gr_standAlone_18 (by decide) ?_
      obtain rfl := Option.some.inj h
      exact hx _ _ _ hZ (lv_sub hl [0, 1] rfl)
  · replace hZ : ZZC G s q1.2 H locs := hZ
    replace hl : lv_has ls 2 [] := hl
    obtain rfl := Option.some.inj h
    exact z_vretC hx0 hb hr hZ hlocks hQ d_Gr_standAlone_21
abbrev rm_Gr_move : Room := ({ frames := 0, cells := 0, slots := 0, locals := 0 } : Room)
set_option maxHeartbeats 4000000 in
set_option maxRecDepth 100000 in
theorem c_Gr_move (l : Launch) (G : zG) (a1 : Int32) (a2 : Int32) (M : Mem) (r : Int32 × Mem) (h : p_Gr_move a1 a2 M = some r) : MetZC l G y_Gr_move (Cond.code y_Gr_move b_Gr_move 4 (some .int) :: zws) rm_Gr_move [.ref (G.1 17), .int a1, .int a2] M (some (.int r.1)) r.2 := by
  unfold p_Gr_move at h
  refine z_ofWC (lv := [(0, .ref (G.1 17)), (1, .int a1), (2, .int a2)]) (by decide) (Nat.le_of_ble_eq_true rfl) rfl (fun p e R s m args below meth c Q ls F hl hZ => ?_)
  obtain ⟨hx0, hb, hml, hr, hts, hown, hlocks, rfl, hQ⟩ := F
  refine lv_aload_n hx0 hb d_Gr_move_0 rfl (lv_at hl 0 rfl) ?_
  refine fg_Gr_groupOf hx0 hb hts hown hZ d_Gr_move_1 ?_
  refine lv_iload_n hx0 hb d_Gr_move_4 rfl (lv_at hl 1 rfl) ?_
  obtain ⟨hi1, h⟩ := chk_some h
  refine z_ialoadC (k := 18) hx0 hb hZ hi1 d_Gr_move_5 ?_
  refine lv_istore_n (lv' := [(3, .int (M.1 18 (Int32.toNatClampNeg a1))), (0, .ref (G.1 17)), (1, .int a1), (2, .int a2)]) hx0 hb d_Gr_move_6 rfl hl (by decide) rfl (fun ls hl => ?_)
  refine lv_aload_n hx0 hb d_Gr_move_7 rfl (lv_at hl 1 rfl) ?_
  refine fg_Gr_groupOf hx0 hb hts hown hZ d_Gr_move_8 ?_
  refine lv_iload_n hx0 hb d_Gr_move_11 rfl (lv_at hl 2 rfl) ?_
  refine lv_iload_n hx0 hb d_Gr_move_12 rfl (lv_at hl 3 rfl) ?_
  obtain ⟨hi2, h⟩ := chk_some h
  refine z_iastoreC (k := 18) hx0 hb hZ hi2 d_Gr_move_13 (fun H locs hZ => ?_)
  obtain ⟨m3, em3, h⟩ := nm_some h
  rw [em3] at hZ
  refine lv_iload_n hx0 hb d_Gr_move_14 rfl (lv_at hl 0 rfl) ?_
  obtain rfl := Option.some.inj h
  exact z_iretC hx0 hb hr hZ hlocks hQ d_Gr_move_15
abbrev rm_Gr_there : Room := ({ frames := 0, cells := 0, slots := 0, locals := 0 } : Room)
set_option maxHeartbeats 4000000 in
set_option maxRecDepth 100000 in
theorem c_Gr_there (l : Launch) (G : zG)  (M : Mem) (r : Int32) (h : p_Gr_there  M = some r) : MetZC l G y_Gr_there (Cond.code y_Gr_there b_Gr_there 3 (some .int) :: zws) rm_Gr_there [.ref (G.1 17)] M (some (.int r)) M := by
  unfold p_Gr_there at h
  refine z_ofWC (lv := [(0, .ref (G.1 17))]) (by decide) (Nat.le_of_ble_eq_true rfl) rfl (fun p e R s m args below meth c Q ls F hl hZ => ?_)
  obtain ⟨hx0, hb, hml, hr, hts, hown, hlocks, rfl, hQ⟩ := F
  refine lv_iconst (v := (0 : Int32)) hx0 hb d_Gr_there_0 (by decide) ?_
  refine lv_istore_n (lv' := [(1, .int (0 : Int32)), (0, .ref (G.1 17))]) hx0 hb d_Gr_there_1 rfl hl (by decide) rfl (fun ls hl => ?_)
  refine lv_iconst (v := (0 : Int32)) hx0 hb d_Gr_there_2 (by decide) ?_
  refine lv_istore_n (lv' := [(2, .int (0 : Int32)), (1, .int (0 : Int32)), (0, .ref (G.1 17))]) hx0 hb d_Gr_there_3 rfl hl (by decide) rfl (fun ls hl => ?_)
  obtain ⟨q1, hq2, h⟩ := bnd_some h
  refine W_itr (At := fun (s0 : Int32 × Int32) => ∀ (H : Heap) (locs : List Loc) (ls : Array Slot), ZZC G s M H locs → lv_has ls 3 [(2, .int s0.2), (1, .int s0.1), (0, .ref (G.1 17))] → W p l e rm_Gr_there s m args below meth c H locs 0 0 Q (F0 m 4 ls [])) (Ex := fun (q0 : Int32 × Int32) => ∀ (H : Heap) (locs : List Loc) (ls : Array Slot), ZZC G s M H locs → lv_has ls 3 [(1, .int q0.1)] → W p l e rm_Gr_there s m args below meth c H locs 0 0 Q (F0 m 29 ls [])) (fun s0 x h hx => ?_) _ _ q1 hq2 (fun H locs ls hZ hl => ?_) _ _ _ hZ (lv_sub hl [0, 1, 2] rfl)
  · obtain ⟨x1_4, x2_4⟩ := s0
    replace h : p_Gr_there_L4 M x1_4 x2_4 = some x := h
    unfold p_Gr_there_L4 at h
    intro H locs ls hZ hl
    replace hZ : ZZC G s M H locs := hZ
    replace hl : lv_has ls 3 [(2, .int x2_4), (1, .int x1_4), (0, .ref (G.1 17))] := hl
    refine lv_iload_n hx0 hb d_Gr_there_4 rfl (lv_at hl 0 rfl) ?_
    refine lv_aload_n hx0 hb d_Gr_there_5 rfl (lv_at hl 2 rfl) ?_
    refine fg_Gr_columns hx0 hb hts hown hZ d_Gr_there_6 ?_
    refine lv_icmp_ge (tgt := 29) hx0 hb d_Gr_there_9 (by decide) (fun c4_1 => ?_) (fun c4_1 => ?_)
    · replace h := (if_pos c4_1).symm.trans h
      obtain rfl := Option.some.inj h
      exact hx _ _ _ hZ (lv_sub hl [1] rfl)
    · replace h := (if_neg c4_1).symm.trans h
      refine lv_iload_n hx0 hb d_Gr_there_12 rfl (lv_at hl 1 rfl) ?_
      refine lv_iconst (v := (1 : Int32)) hx0 hb d_Gr_there_13 (by decide) ?_
      refine lv_aload_n hx0 hb d_Gr_there_14 rfl (lv_at hl 2 rfl) ?_
      refine fg_Gr_groupOf hx0 hb hts hown hZ d_Gr_there_15 ?_
      refine lv_iload_n hx0 hb d_Gr_there_18 rfl (lv_at hl 0 rfl) ?_
      obtain ⟨hi4_2, h⟩ := chk_some h
      refine z_ialoadC (k := 18) hx0 hb hZ hi4_2 d_Gr_there_19 ?_
      refine lv_ishl hx0 hb d_Gr_there_20 ?_
      refine lv_ior hx0 hb d_Gr_there_21 ?_
      refine lv_istore_n (lv' := [(1, .int (x1_4 ||| ((1 : Int32) <<< ((M.1 18 (Int32.toNatClampNeg x2_4)) &&& 31)))), (2, .int x2_4), (0, .ref (G.1 17))]) hx0 hb d_Gr_there_22 rfl hl (by decide) rfl (fun ls hl => ?_)
      refine lv_iinc (v := (x2_4 + (1 : Int32))) (lv' := [(2, .int (x2_4 + (1 : Int32))), (1, .int (x1_4 ||| ((1 : Int32) <<< ((M.1 18 (Int32.toNatClampNeg x2_4)) &&& 31)))), (0, .ref (G.1 17))]) hx0 hb d_Gr_there_23 hl (k := 1) rfl rfl (by decide) rfl (fun ls hl => ?_)
      refine lv_goto (tgt := 4) hx0 hb d_Gr_there_26 (by decide) ?_
      obtain rfl := Option.some.inj h
      exact hx _ _ _ hZ (lv_sub hl [0, 1, 2] rfl)
  · replace hZ : ZZC G s M H locs := hZ
    replace hl : lv_has ls 3 [(1, .int q1.1)] := hl
    refine lv_iload_n hx0 hb d_Gr_there_29 rfl (lv_at hl 0 rfl) ?_
    obtain rfl := Option.some.inj h
    exact z_iretC hx0 hb hr hZ hlocks hQ d_Gr_there_30
abbrev rm_In_bitCount : Room := ({ frames := 0, cells := 0, slots := 0, locals := 0 } : Room)
set_option maxHeartbeats 4000000 in
set_option maxRecDepth 100000 in
theorem c_In_bitCount (l : Launch) (G : zG) (a0 : Int32) (M : Mem) (r : Int32) (h : p_In_bitCount a0 M = some r) : MetZC l G y_In_bitCount (Cond.code y_In_bitCount b_In_bitCount 1 (some .int) :: zws) rm_In_bitCount [.int a0] M (some (.int r)) M := by
  unfold p_In_bitCount at h
  refine z_ofWC (lv := [(0, .int a0)]) (by decide) (Nat.le_of_ble_eq_true rfl) rfl (fun p e R s m args below meth c Q ls F hl hZ => ?_)
  obtain ⟨hx0, hb, hml, hr, hts, hown, hlocks, rfl, hQ⟩ := F
  refine lv_iload_n hx0 hb d_In_bitCount_0 rfl (lv_at hl 0 rfl) ?_
  refine lv_iload_n hx0 hb d_In_bitCount_1 rfl (lv_at hl 0 rfl) ?_
  refine lv_iconst (v := (1 : Int32)) hx0 hb d_In_bitCount_2 (by decide) ?_
  refine lv_iushr (v := zush a0 (1 : Int32)) hx0 hb d_In_bitCount_3 rfl ?_
  refine lv_ldcw (v := (1431655765 : Int32)) hx0 hb hown (hts _ wk_In_265) d_In_bitCount_4 ?_
  refine lv_iand hx0 hb d_In_bitCount_7 ?_
  refine lv_isub hx0 hb d_In_bitCount_8 ?_
  refine lv_istore_n (lv' := [(0, .int (a0 - ((zush a0 (1 : Int32)) &&& (1431655765 : Int32))))]) hx0 hb d_In_bitCount_9 rfl hl (by decide) rfl (fun ls hl => ?_)
  refine lv_iload_n hx0 hb d_In_bitCount_10 rfl (lv_at hl 0 rfl) ?_
  refine lv_ldcw (v := (858993459 : Int32)) hx0 hb hown (hts _ wk_In_266) d_In_bitCount_11 ?_
  refine lv_iand hx0 hb d_In_bitCount_14 ?_
  refine lv_iload_n hx0 hb d_In_bitCount_15 rfl (lv_at hl 0 rfl) ?_
  refine lv_iconst (v := (2 : Int32)) hx0 hb d_In_bitCount_16 (by decide) ?_
  refine lv_iushr (v := zush (a0 - ((zush a0 (1 : Int32)) &&& (1431655765 : Int32))) (2 : Int32)) hx0 hb d_In_bitCount_17 rfl ?_
  refine lv_ldcw (v := (858993459 : Int32)) hx0 hb hown (hts _ wk_In_266) d_In_bitCount_18 ?_
  refine lv_iand hx0 hb d_In_bitCount_21 ?_
  refine lv_iadd hx0 hb d_In_bitCount_22 ?_
  refine lv_istore_n (lv' := [(0, .int (((a0 - ((zush a0 (1 : Int32)) &&& (1431655765 : Int32))) &&& (858993459 : Int32)) + ((zush (a0 - ((zush a0 (1 : Int32)) &&& (1431655765 : Int32))) (2 : Int32)) &&& (858993459 : Int32))))]) hx0 hb d_In_bitCount_23 rfl hl (by decide) rfl (fun ls hl => ?_)
  refine lv_iload_n hx0 hb d_In_bitCount_24 rfl (lv_at hl 0 rfl) ?_
  refine lv_iload_n hx0 hb d_In_bitCount_25 rfl (lv_at hl 0 rfl) ?_
  refine lv_iconst (v := (4 : Int32)) hx0 hb d_In_bitCount_26 (by decide) ?_
  refine lv_iushr (v := zush (((a0 - ((zush a0 (1 : Int32)) &&& (1431655765 : Int32))) &&& (858993459 : Int32)) + ((zush (a0 - ((zush a0 (1 : Int32)) &&& (1431655765 : Int32))) (2 : Int32)) &&& (858993459 : Int32))) (4 : Int32)) hx0 hb d_In_bitCount_27 rfl ?_
  refine lv_iadd hx0 hb d_In_bitCount_28 ?_
  refine lv_ldcw (v := (252645135 : Int32)) hx0 hb hown (hts _ wk_In_267) d_In_bitCount_29 ?_
  refine lv_iand hx0 hb d_In_bitCount_32 ?_
  refine lv_istore_n (lv' := [(0, .int (((((a0 - ((zush a0 (1 : Int32)) &&& (1431655765 : Int32))) &&& (858993459 : Int32)) + ((zush (a0 - ((zush a0 (1 : Int32)) &&& (1431655765 : Int32))) (2 : Int32)) &&& (858993459 : Int32))) + (zush (((a0 - ((zush a0 (1 : Int32)) &&& (1431655765 : Int32))) &&& (858993459 : Int32)) + ((zush (a0 - ((zush a0 (1 : Int32)) &&& (1431655765 : Int32))) (2 : Int32)) &&& (858993459 : Int32))) (4 : Int32))) &&& (252645135 : Int32)))]) hx0 hb d_In_bitCount_33 rfl hl (by decide) rfl (fun ls hl => ?_)
  refine lv_iload_n hx0 hb d_In_bitCount_34 rfl (lv_at hl 0 rfl) ?_
  refine lv_iload_n hx0 hb d_In_bitCount_35 rfl (lv_at hl 0 rfl) ?_
  refine lv_bipush (v := (8 : Int32)) hx0 hb d_In_bitCount_36 (by decide) ?_
  refine lv_iushr (v := zush (((((a0 - ((zush a0 (1 : Int32)) &&& (1431655765 : Int32))) &&& (858993459 : Int32)) + ((zush (a0 - ((zush a0 (1 : Int32)) &&& (1431655765 : Int32))) (2 : Int32)) &&& (858993459 : Int32))) + (zush (((a0 - ((zush a0 (1 : Int32)) &&& (1431655765 : Int32))) &&& (858993459 : Int32)) + ((zush (a0 - ((zush a0 (1 : Int32)) &&& (1431655765 : Int32))) (2 : Int32)) &&& (858993459 : Int32))) (4 : Int32))) &&& (252645135 : Int32)) (8 : Int32)) hx0 hb d_In_bitCount_38 rfl ?_
  refine lv_iadd hx0 hb d_In_bitCount_39 ?_
  refine lv_istore_n (lv' := [(0, .int ((((((a0 - ((zush a0 (1 : Int32)) &&& (1431655765 : Int32))) &&& (858993459 : Int32)) + ((zush (a0 - ((zush a0 (1 : Int32)) &&& (1431655765 : Int32))) (2 : Int32)) &&& (858993459 : Int32))) + (zush (((a0 - ((zush a0 (1 : Int32)) &&& (1431655765 : Int32))) &&& (858993459 : Int32)) + ((zush (a0 - ((zush a0 (1 : Int32)) &&& (1431655765 : Int32))) (2 : Int32)) &&& (858993459 : Int32))) (4 : Int32))) &&& (252645135 : Int32)) + (zush (((((a0 - ((zush a0 (1 : Int32)) &&& (1431655765 : Int32))) &&& (858993459 : Int32)) + ((zush (a0 - ((zush a0 (1 : Int32)) &&& (1431655765 : Int32))) (2 : Int32)) &&& (858993459 : Int32))) + (zush (((a0 - ((zush a0 (1 : Int32)) &&& (1431655765 : Int32))) &&& (858993459 : Int32)) + ((zush (a0 - ((zush a0 (1 : Int32)) &&& (1431655765 : Int32))) (2 : Int32)) &&& (858993459 : Int32))) (4 : Int32))) &&& (252645135 : Int32)) (8 : Int32))))]) hx0 hb d_In_bitCount_40 rfl hl (by decide) rfl (fun ls hl => ?_)
  refine lv_iload_n hx0 hb d_In_bitCount_41 rfl (lv_at hl 0 rfl) ?_
  refine lv_iload_n hx0 hb d_In_bitCount_42 rfl (lv_at hl 0 rfl) ?_
  refine lv_bipush (v := (16 : Int32)) hx0 hb d_In_bitCount_43 (by decide) ?_
  refine lv_iushr (v := zush ((((((a0 - ((zush a0 (1 : Int32)) &&& (1431655765 : Int32))) &&& (858993459 : Int32)) + ((zush (a0 - ((zush a0 (1 : Int32)) &&& (1431655765 : Int32))) (2 : Int32)) &&& (858993459 : Int32))) + (zush (((a0 - ((zush a0 (1 : Int32)) &&& (1431655765 : Int32))) &&& (858993459 : Int32)) + ((zush (a0 - ((zush a0 (1 : Int32)) &&& (1431655765 : Int32))) (2 : Int32)) &&& (858993459 : Int32))) (4 : Int32))) &&& (252645135 : Int32)) + (zush (((((a0 - ((zush a0 (1 : Int32)) &&& (1431655765 : Int32))) &&& (858993459 : Int32)) + ((zush (a0 - ((zush a0 (1 : Int32)) &&& (1431655765 : Int32))) (2 : Int32)) &&& (858993459 : Int32))) + (zush (((a0 - ((zush a0 (1 : Int32)) &&& (1431655765 : Int32))) &&& (858993459 : Int32)) + ((zush (a0 - ((zush a0 (1 : Int32)) &&& (1431655765 : Int32))) (2 : Int32)) &&& (858993459 : Int32))) (4 : Int32))) &&& (252645135 : Int32)) (8 : Int32))) (16 : Int32)) hx0 hb d_In_bitCount_45 rfl ?_
  refine lv_iadd hx0 hb d_In_bitCount_46 ?_
  refine lv_istore_n (lv' := [(0, .int (((((((a0 - ((zush a0 (1 : Int32)) &&& (1431655765 : Int32))) &&& (858993459 : Int32)) + ((zush (a0 - ((zush a0 (1 : Int32)) &&& (1431655765 : Int32))) (2 : Int32)) &&& (858993459 : Int32))) + (zush (((a0 - ((zush a0 (1 : Int32)) &&& (1431655765 : Int32))) &&& (858993459 : Int32)) + ((zush (a0 - ((zush a0 (1 : Int32)) &&& (1431655765 : Int32))) (2 : Int32)) &&& (858993459 : Int32))) (4 : Int32))) &&& (252645135 : Int32)) + (zush (((((a0 - ((zush a0 (1 : Int32)) &&& (1431655765 : Int32))) &&& (858993459 : Int32)) + ((zush (a0 - ((zush a0 (1 : Int32)) &&& (1431655765 : Int32))) (2 : Int32)) &&& (858993459 : Int32))) + (zush (((a0 - ((zush a0 (1 : Int32)) &&& (1431655765 : Int32))) &&& (858993459 : Int32)) + ((zush (a0 - ((zush a0 (1 : Int32)) &&& (1431655765 : Int32))) (2 : Int32)) &&& (858993459 : Int32))) (4 : Int32))) &&& (252645135 : Int32)) (8 : Int32))) + (zush ((((((a0 - ((zush a0 (1 : Int32)) &&& (1431655765 : Int32))) &&& (858993459 : Int32)) + ((zush (a0 - ((zush a0 (1 : Int32)) &&& (1431655765 : Int32))) (2 : Int32)) &&& (858993459 : Int32))) + (zush (((a0 - ((zush a0 (1 : Int32)) &&& (1431655765 : Int32))) &&& (858993459 : Int32)) + ((zush (a0 - ((zush a0 (1 : Int32)) &&& (1431655765 : Int32))) (2 : Int32)) &&& (858993459 : Int32))) (4 : Int32))) &&& (252645135 : Int32)) + (zush (((((a0 - ((zush a0 (1 : Int32)) &&& (1431655765 : Int32))) &&& (858993459 : Int32)) + ((zush (a0 - ((zush a0 (1 : Int32)) &&& (1431655765 : Int32))) (2 : Int32)) &&& (858993459 : Int32))) + (zush (((a0 - ((zush a0 (1 : Int32)) &&& (1431655765 : Int32))) &&& (858993459 : Int32)) + ((zush (a0 - ((zush a0 (1 : Int32)) &&& (1431655765 : Int32))) (2 : Int32)) &&& (858993459 : Int32))) (4 : Int32))) &&& (252645135 : Int32)) (8 : Int32))) (16 : Int32))))]) hx0 hb d_In_bitCount_47 rfl hl (by decide) rfl (fun ls hl => ?_)
  refine lv_iload_n hx0 hb d_In_bitCount_48 rfl (lv_at hl 0 rfl) ?_
  refine lv_bipush (v := (63 : Int32)) hx0 hb d_In_bitCount_49 (by decide) ?_
  refine lv_iand hx0 hb d_In_bitCount_51 ?_
  obtain rfl := Option.some.inj h
  exact z_iretC hx0 hb hr hZ hlocks hQ d_In_bitCount_52
abbrev rm_Gr_count : Room := ({ frames := 1, cells := 0, slots := 0, locals := 22 } : Room)
set_option maxHeartbeats 4000000 in
set_option maxRecDepth 100000 in
theorem c_Gr_count (l : Launch) (G : zG)  (M : Mem) (r : Int32) (h : p_Gr_count  M = some r) : MetZC l G y_Gr_count (Cond.code y_Gr_count b_Gr_count 1 (some .int) :: zws) rm_Gr_count [.ref (G.1 17)] M (some (.int r)) M := by
  unfold p_Gr_count at h
  refine z_ofWC (lv := [(0, .ref (G.1 17))]) (by decide) (Nat.le_of_ble_eq_true rfl) rfl (fun p e R s m args below meth c Q ls F hl hZ => ?_)
  obtain ⟨hx0, hb, hml, hr, hts, hown, hlocks, rfl, hQ⟩ := F
  refine lv_aload_n hx0 hb d_Gr_count_0 rfl (lv_at hl 0 rfl) ?_
  obtain ⟨q1, hc4, h⟩ := bnd_some h
  refine k_Gr_Gr_there [] hx0 hb hml hts hown (c_Gr_there l G  M q1 hc4) hZ rfl rfl ⟨Nat.le_of_ble_eq_true rfl, Nat.le_of_ble_eq_true rfl⟩ hl.1 rfl (Nat.le_of_ble_eq_true rfl) d_Gr_count_1 (fun H locs hZ => ?_)
  obtain ⟨q2, hc3, h⟩ := bnd_some h
  refine k_Gr_In_bitCount [.int q1] hx0 hb hml hts hown (c_In_bitCount l G q1 M q2 hc3) hZ rfl rfl ⟨Nat.le_of_ble_eq_true rfl, Nat.le_of_ble_eq_true rfl⟩ hl.1 rfl (Nat.le_of_ble_eq_true rfl) d_Gr_count_4 (fun H locs hZ => ?_)
  obtain rfl := Option.some.inj h
  exact z_iretC hx0 hb hr hZ hlocks hQ d_Gr_count_7
abbrev rm_Gr_columnsOf : Room := ({ frames := 0, cells := 0, slots := 0, locals := 0 } : Room)
set_option maxHeartbeats 4000000 in
set_option maxRecDepth 100000 in
theorem c_Gr_columnsOf (l : Launch) (G : zG) (a1 : Int32) (M : Mem) (r : Int32) (h : p_Gr_columnsOf a1 M = some r) : MetZC l G y_Gr_columnsOf (Cond.code y_Gr_columnsOf b_Gr_columnsOf 4 (some .int) :: zws) rm_Gr_columnsOf [.ref (G.1 17), .int a1] M (some (.int r)) M := by
  unfold p_Gr_columnsOf at h
  refine z_ofWC (lv := [(0, .ref (G.1 17)), (1, .int a1)]) (by decide) (Nat.le_of_ble_eq_true rfl) rfl (fun p e R s m args below meth c Q ls F hl hZ => ?_)
  obtain ⟨hx0, hb, hml, hr, hts, hown, hlocks, rfl, hQ⟩ := F
  refine lv_iconst (v := (0 : Int32)) hx0 hb d_Gr_columnsOf_0 (by decide) ?_
  refine lv_istore_n (lv' := [(2, .int (0 : Int32)), (0, .ref (G.1 17)), (1, .int a1)]) hx0 hb d_Gr_columnsOf_1 rfl hl (by decide) rfl (fun ls hl => ?_)
  refine lv_iconst (v := (0 : Int32)) hx0 hb d_Gr_columnsOf_2 (by decide) ?_
  refine lv_istore_n (lv' := [(3, .int (0 : Int32)), (2, .int (0 : Int32)), (0, .ref (G.1 17)), (1, .int a1)]) hx0 hb d_Gr_columnsOf_3 rfl hl (by decide) rfl (fun ls hl => ?_)
  obtain ⟨q1, hq2, h⟩ := bnd_some h
  refine W_itr (At := fun (s0 : Int32 × Int32) => ∀ (H : Heap) (locs : List Loc) (ls : Array Slot), ZZC G s M H locs → lv_has ls 4 [(3, .int s0.2), (2, .int s0.1), (0, .ref (G.1 17)), (1, .int a1)] → W p l e rm_Gr_columnsOf s m args below meth c H locs 0 0 Q (F0 m 4 ls [])) (Ex := fun (q0 : Int32 × Int32) => ∀ (H : Heap) (locs : List Loc) (ls : Array Slot), ZZC G s M H locs → lv_has ls 4 [(2, .int q0.1)] → W p l e rm_Gr_columnsOf s m args below meth c H locs 0 0 Q (F0 m 38 ls [])) (fun s0 x h hx => ?_) _ _ q1 hq2 (fun H locs ls hZ hl => ?_) _ _ _ hZ (lv_sub hl [0, 1, 2, 3] rfl)
  · obtain ⟨x2_4, x3_4⟩ := s0
    replace h : p_Gr_columnsOf_L4 a1 M x2_4 x3_4 = some x := h
    unfold p_Gr_columnsOf_L4 at h
    intro H locs ls hZ hl
    replace hZ : ZZC G s M H locs := hZ
    replace hl : lv_has ls 4 [(3, .int x3_4), (2, .int x2_4), (0, .ref (G.1 17)), (1, .int a1)] := hl
    refine lv_iload_n hx0 hb d_Gr_columnsOf_4 rfl (lv_at hl 0 rfl) ?_
    refine lv_aload_n hx0 hb d_Gr_columnsOf_5 rfl (lv_at hl 2 rfl) ?_
    refine fg_Gr_columns hx0 hb hts hown hZ d_Gr_columnsOf_6 ?_
    refine lv_icmp_ge (tgt := 38) hx0 hb d_Gr_columnsOf_9 (by decide) (fun c4_1 => ?_) (fun c4_1 => ?_)
    · replace h := (if_pos c4_1).symm.trans h
      obtain rfl := Option.some.inj h
      exact hx _ _ _ hZ (lv_sub hl [1] rfl)
    · replace h := (if_neg c4_1).symm.trans h
      refine lv_iload_n hx0 hb d_Gr_columnsOf_12 rfl (lv_at hl 3 rfl) ?_
      refine lv_aload_n hx0 hb d_Gr_columnsOf_13 rfl (lv_at hl 2 rfl) ?_
      refine fg_Gr_groupOf hx0 hb hts hown hZ d_Gr_columnsOf_14 ?_
      refine lv_iload_n hx0 hb d_Gr_columnsOf_17 rfl (lv_at hl 0 rfl) ?_
      obtain ⟨hi4_2, h⟩ := chk_some h
      refine z_ialoadC (k := 18) hx0 hb hZ hi4_2 d_Gr_columnsOf_18 ?_
      refine lv_ishr hx0 hb d_Gr_columnsOf_19 ?_
      refine lv_iconst (v := (1 : Int32)) hx0 hb d_Gr_columnsOf_20 (by decide) ?_
      refine lv_iand hx0 hb d_Gr_columnsOf_21 ?_
      refine lv_iconst (v := (1 : Int32)) hx0 hb d_Gr_columnsOf_22 (by decide) ?_
      refine lv_icmp_ne (tgt := 32) hx0 hb d_Gr_columnsOf_23 (by decide) (fun c4_3 => ?_) (fun c4_3 => ?_)
      · replace h := (if_neg c4_3).symm.trans h
        refine lv_iinc (v := (x3_4 + (1 : Int32))) (lv' := [(3, .int (x3_4 + (1 : Int32))), (2, .int x2_4), (0, .ref (G.1 17)), (1, .int a1)]) hx0 hb d_Gr_columnsOf_32 hl (k := 0) rfl rfl (by decide) rfl (fun ls hl => ?_)
        refine lv_goto (tgt := 4) hx0 hb d_Gr_columnsOf_35 (by decide) ?_
        obtain rfl := Option.some.inj h
        exact hx _ _ _ hZ (lv_sub hl [0, 1, 2, 3] rfl)
      · replace h := (if_pos c4_3).symm.trans h
        refine lv_iload_n hx0 hb d_Gr_columnsOf_26 rfl (lv_at hl 1 rfl) ?_
        refine lv_iconst (v := (1 : Int32)) hx0 hb d_Gr_columnsOf_27 (by decide) ?_
        refine lv_iload_n hx0 hb d_Gr_columnsOf_28 rfl (lv_at hl 0 rfl) ?_
        refine lv_ishl hx0 hb d_Gr_columnsOf_29 ?_
        refine lv_ior hx0 hb d_Gr_columnsOf_30 ?_
        refine lv_istore_n (lv' := [(2, .int (x2_4 ||| ((1 : Int32) <<< (x3_4 &&& 31)))), (3, .int x3_4), (0, .ref (G.1 17)), (1, .int a1)]) hx0 hb d_Gr_columnsOf_31 rfl hl (by decide) rfl (fun ls hl => ?_)
        refine lv_iinc (v := (x3_4 + (1 : Int32))) (lv' := [(3, .int (x3_4 + (1 : Int32))), (2, .int (x2_4 ||| ((1 : Int32) <<< (x3_4 &&& 31)))), (0, .ref (G.1 17)), (1, .int a1)]) hx0 hb d_Gr_columnsOf_32 hl (k := 1) rfl rfl (by decide) rfl (fun ls hl => ?_)
        refine lv_goto (tgt := 4) hx0 hb d_Gr_columnsOf_35 (by decide) ?_
        obtain rfl := Option.some.inj h
        exact hx _ _ _ hZ (lv_sub hl [0, 1, 2, 3] rfl)
  · replace hZ : ZZC G s M H locs := hZ
    replace hl : lv_has ls 4 [(2, .int q1.1)] := hl
    refine lv_iload_n hx0 hb d_Gr_columnsOf_38 rfl (lv_at hl 0 rfl) ?_
    obtain rfl := Option.some.inj h
    exact z_iretC hx0 hb hr hZ hlocks hQ d_Gr_columnsOf_39
abbrev rm_Gr_ofColumn : Room := ({ frames := 0, cells := 0, slots := 0, locals := 0 } : Room)
set_option maxHeartbeats 4000000 in
set_option maxRecDepth 100000 in
theorem c_Gr_ofColumn (l : Launch) (G : zG) (a1 : Int32) (M : Mem) (r : Int32) (h : p_Gr_ofColumn a1 M = some r) : MetZC l G y_Gr_ofColumn (Cond.code y_Gr_ofColumn b_Gr_ofColumn 2 (some .int) :: zws) rm_Gr_ofColumn [.ref (G.1 17), .int a1] M (some (.int r)) M := by
  unfold p_Gr_ofColumn at h
  refine z_ofWC (lv := [(0, .ref (G.1 17)), (1, .int a1)]) (by decide) (Nat.le_of_ble_eq_true rfl) rfl (fun p e R s m args below meth c Q ls F hl hZ => ?_)
  obtain ⟨hx0, hb, hml, hr, hts, hown, hlocks, rfl, hQ⟩ := F
  refine lv_aload_n hx0 hb d_Gr_ofColumn_0 rfl (lv_at hl 0 rfl) ?_
  refine fg_Gr_groupOf hx0 hb hts hown hZ d_Gr_ofColumn_1 ?_
  refine lv_iload_n hx0 hb d_Gr_ofColumn_4 rfl (lv_at hl 1 rfl) ?_
  obtain ⟨hi1, h⟩ := chk_some h
  refine z_ialoadC (k := 18) hx0 hb hZ hi1 d_Gr_ofColumn_5 ?_
  obtain rfl := Option.some.inj h
  exact z_iretC hx0 hb hr hZ hlocks hQ d_Gr_ofColumn_6
abbrev rm_Or_start : Room := ({ frames := 0, cells := 0, slots := 0, locals := 0 } : Room)
set_option maxHeartbeats 4000000 in
set_option maxRecDepth 100000 in
theorem c_Or_start (l : Launch) (G : zG) (a1 : Int32) (M : Mem) (r : Mem) (h : p_Or_start a1 M = some r) : MetZC l G y_Or_start (Cond.code y_Or_start b_Or_start 2 none :: zws) rm_Or_start [.ref (G.1 22), .int a1] M none r := by
  unfold p_Or_start at h
  refine z_ofWC (lv := [(0, .ref (G.1 22)), (1, .int a1)]) (by decide) (Nat.le_of_ble_eq_true rfl) rfl (fun p e R s m args below meth c Q ls F hl hZ => ?_)
  obtain ⟨hx0, hb, hml, hr, hts, hown, hlocks, rfl, hQ⟩ := F
  refine lv_aload_n hx0 hb d_Or_start_0 rfl (lv_at hl 0 rfl) ?_
  refine lv_iload_n hx0 hb d_Or_start_1 rfl (lv_at hl 1 rfl) ?_
  refine fp_Or_z hx0 hb hts hown hZ d_Or_start_2 (fun H locs hZ => ?_)
  obtain ⟨m1, em1, h⟩ := nm_some h
  rw [em1] at hZ
  obtain rfl := Option.some.inj h
  exact z_vretC hx0 hb hr hZ hlocks hQ d_Or_start_5
abbrev rm_Or_lineUp : Room := ({ frames := 1, cells := 0, slots := 0, locals := 22 } : Room)
set_option maxHeartbeats 4000000 in
set_option maxRecDepth 100000 in
theorem c_Or_lineUp (l : Launch) (G : zG)  (M : Mem) (r : Mem) (h : p_Or_lineUp  M = some r) : MetZC l G y_Or_lineUp (Cond.code y_Or_lineUp b_Or_lineUp 3 none :: zws) rm_Or_lineUp [.ref (G.1 22)] M none r := by
  unfold p_Or_lineUp at h
  refine z_ofWC (lv := [(0, .ref (G.1 22))]) (by decide) (Nat.le_of_ble_eq_true rfl) rfl (fun p e R s m args below meth c Q ls F hl hZ => ?_)
  obtain ⟨hx0, hb, hml, hr, hts, hown, hlocks, rfl, hQ⟩ := F
  refine lv_aload_n hx0 hb d_Or_lineUp_0 rfl (lv_at hl 0 rfl) ?_
  refine fg_Or_groups hx0 hb hts hown hZ d_Or_lineUp_1 ?_
  obtain ⟨q1, hc4, h⟩ := bnd_some h
  refine k_Or_Gr_there [] hx0 hb hml hts hown (c_Gr_there l G  M q1 hc4) hZ rfl rfl ⟨Nat.le_of_ble_eq_true rfl, Nat.le_of_ble_eq_true rfl⟩ hl.1 rfl (Nat.le_of_ble_eq_true rfl) d_Or_lineUp_4 (fun H locs hZ => ?_)
  refine lv_istore_n (lv' := [(1, .int q1), (0, .ref (G.1 22))]) hx0 hb d_Or_lineUp_7 rfl hl (by decide) rfl (fun ls hl => ?_)
  refine lv_aload_n hx0 hb d_Or_lineUp_8 rfl (lv_at hl 1 rfl) ?_
  refine lv_iconst (v := (0 : Int32)) hx0 hb d_Or_lineUp_9 (by decide) ?_
  refine fp_Or_count hx0 hb hts hown hZ d_Or_lineUp_10 (fun H locs hZ => ?_)
  obtain ⟨m2, em2, h⟩ := nm_some h
  rw [em2] at hZ
  refine lv_iconst (v := (0 : Int32)) hx0 hb d_Or_lineUp_13 (by decide) ?_
  refine lv_istore_n (lv' := [(2, .int (0 : Int32)), (1, .int q1), (0, .ref (G.1 22))]) hx0 hb d_Or_lineUp_14 rfl hl (by decide) rfl (fun ls hl => ?_)
  obtain ⟨q3, hq5, h⟩ := bnd_some h
  refine W_itr (At := fun (s0 : Int32 × Mem) => ∀ (H : Heap) (locs : List Loc) (ls : Array Slot), ZZC G s s0.2 H locs → lv_has ls 3 [(2, .int s0.1), (1, .int q1), (0, .ref (G.1 22))] → W p l e rm_Or_lineUp s m args below meth c H locs 0 0 Q (F0 m 15 ls [])) (Ex := fun (q0 : Int32 × Mem) => ∀ (H : Heap) (locs : List Loc) (ls : Array Slot), ZZC G s q0.2 H locs → lv_has ls 3 [] → W p l e rm_Or_lineUp s m args below meth c H locs 0 0 Q (F0 m 56 ls [])) (fun s0 x h hx => ?_) _ _ q3 hq5 (fun H locs ls hZ hl => ?_) _ _ _ hZ (lv_sub hl [0, 1, 2] rfl)
  · obtain ⟨x2_15, M_15⟩ := s0
    replace h : p_Or_lineUp_L15 q1 x2_15 M_15 = some x := h
    unfold p_Or_lineUp_L15 at h
    intro H locs ls hZ hl
    replace hZ : ZZC G s M_15 H locs := hZ
    replace hl : lv_has ls 3 [(2, .int x2_15), (1, .int q1), (0, .ref (G.1 22))] := hl
    refine lv_iload_n hx0 hb d_Or_lineUp_15 rfl (lv_at hl 0 rfl) ?_
    refine lv_bipush (v := (6 : Int32)) hx0 hb d_Or_lineUp_16 (by decide) ?_
    refine lv_icmp_ge (tgt := 56) hx0 hb d_Or_lineUp_18 (by decide) (fun c15_1 => ?_) (fun c15_1 => ?_)
    · replace h := (if_pos c15_1).symm.trans h
      obtain rfl := Option.some.inj h
      exact hx _ _ _ hZ (lv_sub hl [] rfl)
    · replace h := (if_neg c15_1).symm.trans h
      refine lv_iload_n hx0 hb d_Or_lineUp_21 rfl (lv_at hl 1 rfl) ?_
      refine lv_iload_n hx0 hb d_Or_lineUp_22 rfl (lv_at hl 0 rfl) ?_
      refine lv_ishr hx0 hb d_Or_lineUp_23 ?_
      refine lv_iconst (v := (1 : Int32)) hx0 hb d_Or_lineUp_24 (by decide) ?_
      refine lv_iand hx0 hb d_Or_lineUp_25 ?_
      refine lv_iconst (v := (1 : Int32)) hx0 hb d_Or_lineUp_26 (by decide) ?_
      refine lv_icmp_ne (tgt := 50) hx0 hb d_Or_lineUp_27 (by decide) (fun c15_2 => ?_) (fun c15_2 => ?_)
      · replace h := (if_neg c15_2).symm.trans h
        refine lv_iinc (v := (x2_15 + (1 : Int32))) (lv' := [(2, .int (x2_15 + (1 : Int32))), (1, .int q1), (0, .ref (G.1 22))]) hx0 hb d_Or_lineUp_50 hl (k := 0) rfl rfl (by decide) rfl (fun ls hl => ?_)
        refine lv_goto (tgt := 15) hx0 hb d_Or_lineUp_53 (by decide) ?_
        obtain rfl := Option.some.inj h
        exact hx _ _ _ hZ (lv_sub hl [0, 1, 2] rfl)
      · replace h := (if_pos c15_2).symm.trans h
        refine lv_aload_n hx0 hb d_Or_lineUp_30 rfl (lv_at hl 2 rfl) ?_
        refine fg_Or_order hx0 hb hts hown hZ d_Or_lineUp_31 ?_
        refine lv_aload_n hx0 hb d_Or_lineUp_34 rfl (lv_at hl 2 rfl) ?_
        refine fg_Or_count hx0 hb hts hown hZ d_Or_lineUp_35 ?_
        refine lv_iload_n hx0 hb d_Or_lineUp_38 rfl (lv_at hl 0 rfl) ?_
        obtain ⟨hi15_3, h⟩ := chk_some h
        refine z_iastoreC (k := 23) hx0 hb hZ hi15_3 d_Or_lineUp_39 (fun H locs hZ => ?_)
        obtain ⟨m15_4, em15_4, h⟩ := nm_some h
        rw [em15_4] at hZ
        refine lv_aload_n hx0 hb d_Or_lineUp_40 rfl (lv_at hl 2 rfl) ?_
        refine lv_dup hx0 hb d_Or_lineUp_41 rfl ?_
        refine fg_Or_count hx0 hb hts hown hZ d_Or_lineUp_42 ?_
        refine lv_iconst (v := (1 : Int32)) hx0 hb d_Or_lineUp_45 (by decide) ?_
        refine lv_iadd hx0 hb d_Or_lineUp_46 ?_
        refine fp_Or_count hx0 hb hts hown hZ d_Or_lineUp_47 (fun H locs hZ => ?_)
        obtain ⟨m15_5, em15_5, h⟩ := nm_some h
        rw [em15_5] at hZ
        refine lv_iinc (v := (x2_15 + (1 : Int32))) (lv' := [(2, .int (x2_15 + (1 : Int32))), (1, .int q1), (0, .ref (G.1 22))]) hx0 hb d_Or_lineUp_50 hl (k := 0) rfl rfl (by decide) rfl (fun ls hl => ?_)
        refine lv_goto (tgt := 15) hx0 hb d_Or_lineUp_53 (by decide) ?_
        obtain rfl := Option.some.inj h
        exact hx _ _ _ hZ (lv_sub hl [0, 1, 2] rfl)
  · replace hZ : ZZC G s q3.2 H locs := hZ
    replace hl : lv_has ls 3 [] := hl
    obtain rfl := Option.some.inj h
    exact z_vretC hx0 hb hr hZ hlocks hQ d_Or_lineUp_56
abbrev rm_Or_below : Room := ({ frames := 0, cells := 0, slots := 0, locals := 0 } : Room)
set_option maxHeartbeats 4000000 in
set_option maxRecDepth 100000 in
theorem c_Or_below (l : Launch) (G : zG) (a1 : Int32) (M : Mem) (r : Int32 × Mem) (h : p_Or_below a1 M = some r) : MetZC l G y_Or_below (Cond.code y_Or_below b_Or_below 2 (some .int) :: zws) rm_Or_below [.ref (G.1 22), .int a1] M (some (.int r.1)) r.2 := by
  unfold p_Or_below at h
  refine z_ofWC (lv := [(0, .ref (G.1 22)), (1, .int a1)]) (by decide) (Nat.le_of_ble_eq_true rfl) rfl (fun p e R s m args below meth c Q ls F hl hZ => ?_)
  obtain ⟨hx0, hb, hml, hr, hts, hown, hlocks, rfl, hQ⟩ := F
  refine lv_aload_n hx0 hb d_Or_below_0 rfl (lv_at hl 0 rfl) ?_
  refine lv_aload_n hx0 hb d_Or_below_1 rfl (lv_at hl 0 rfl) ?_
  refine fg_Or_z hx0 hb hts hown hZ d_Or_below_2 ?_
  refine lv_ldc (v := (1103515245 : Int32)) hx0 hb hown (hts _ wk_Or_39) d_Or_below_5 ?_
  refine lv_imul hx0 hb d_Or_below_7 ?_
  refine lv_sipush (v := (12345 : Int32)) hx0 hb d_Or_below_8 (by decide) ?_
  refine lv_iadd hx0 hb d_Or_below_11 ?_
  refine fp_Or_z hx0 hb hts hown hZ d_Or_below_12 (fun H locs hZ => ?_)
  obtain ⟨m1, em1, h⟩ := nm_some h
  rw [em1] at hZ
  refine lv_iload_n hx0 hb d_Or_below_15 rfl (lv_at hl 1 rfl) ?_
  refine lv_if_le (tgt := 31) hx0 hb d_Or_below_16 (by decide) (fun c2 => ?_) (fun c2 => ?_)
  · replace h := (if_pos c2).symm.trans h
    refine lv_iconst (v := (0 : Int32)) hx0 hb d_Or_below_31 (by decide) ?_
    obtain rfl := Option.some.inj h
    exact z_iretC hx0 hb hr hZ hlocks hQ d_Or_below_32
  · replace h := (if_neg c2).symm.trans h
    refine lv_aload_n hx0 hb d_Or_below_19 rfl (lv_at hl 0 rfl) ?_
    refine fg_Or_z hx0 hb hts hown hZ d_Or_below_20 ?_
    refine lv_bipush (v := (16 : Int32)) hx0 hb d_Or_below_23 (by decide) ?_
    refine lv_iushr (v := zush (m1.1 22 3) (16 : Int32)) hx0 hb d_Or_below_25 rfl ?_
    refine lv_iload_n hx0 hb d_Or_below_26 rfl (lv_at hl 1 rfl) ?_
    obtain ⟨hn3, h⟩ := chk_some h
    refine lv_irem hx0 hb d_Or_below_27 (of_decide_eq_true hn3) ?_
    refine lv_goto (tgt := 32) hx0 hb d_Or_below_28 (by decide) ?_
    obtain rfl := Option.some.inj h
    exact z_iretC hx0 hb hr hZ hlocks hQ d_Or_below_32
abbrev rm_Or_drawNext : Room := ({ frames := 2, cells := 0, slots := 0, locals := 44 } : Room)
set_option maxHeartbeats 4000000 in
set_option maxRecDepth 100000 in
theorem c_Or_drawNext (l : Launch) (G : zG)  (M : Mem) (r : Mem) (h : p_Or_drawNext  M = some r) : MetZC l G y_Or_drawNext (Cond.code y_Or_drawNext b_Or_drawNext 4 none :: zws) rm_Or_drawNext [.ref (G.1 22)] M none r := by
  unfold p_Or_drawNext at h
  refine z_ofWC (lv := [(0, .ref (G.1 22))]) (by decide) (Nat.le_of_ble_eq_true rfl) rfl (fun p e R s m args below meth c Q ls F hl hZ => ?_)
  obtain ⟨hx0, hb, hml, hr, hts, hown, hlocks, rfl, hQ⟩ := F
  refine lv_aload_n hx0 hb d_Or_drawNext_0 rfl (lv_at hl 0 rfl) ?_
  obtain ⟨q1, hc3, h⟩ := bnd_some h
  refine k_Or_Or_lineUp [] hx0 hb hml hts hown (c_Or_lineUp l G  M q1 hc3) hZ rfl rfl ⟨Nat.le_of_ble_eq_true rfl, Nat.le_of_ble_eq_true rfl⟩ hl.1 rfl (Nat.le_of_ble_eq_true rfl) d_Or_drawNext_1 (fun H locs hZ => ?_)
  refine lv_aload_n hx0 hb d_Or_drawNext_4 rfl (lv_at hl 0 rfl) ?_
  refine fg_Or_count hx0 hb hts hown hZ d_Or_drawNext_5 ?_
  refine lv_iconst (v := (1 : Int32)) hx0 hb d_Or_drawNext_8 (by decide) ?_
  refine lv_isub hx0 hb d_Or_drawNext_9 ?_
  refine lv_istore_n (lv' := [(1, .int ((q1.1 22 2) - (1 : Int32))), (0, .ref (G.1 22))]) hx0 hb d_Or_drawNext_10 rfl hl (by decide) rfl (fun ls hl => ?_)
  obtain ⟨q2, hq4, h⟩ := bnd_some h
  refine W_itr (At := fun (s0 : Int32 × Mem) => ∀ (H : Heap) (locs : List Loc) (ls : Array Slot), ZZC G s s0.2 H locs → lv_has ls 4 [(1, .int s0.1), (0, .ref (G.1 22))] → W p l e rm_Or_drawNext s m args below meth c H locs 0 0 Q (F0 m 11 ls [])) (Ex := fun (q0 : Int32 × Mem) => ∀ (H : Heap) (locs : List Loc) (ls : Array Slot), ZZC G s q0.2 H locs → lv_has ls 4 [] → W p l e rm_Or_drawNext s m args below meth c H locs 0 0 Q (F0 m 56 ls [])) (fun s0 x h hx => ?_) _ _ q2 hq4 (fun H locs ls hZ hl => ?_) _ _ _ hZ (lv_sub hl [0, 1] rfl)
  · obtain ⟨x1_11, M_11⟩ := s0
    replace h : p_Or_drawNext_L11 x1_11 M_11 = some x := h
    unfold p_Or_drawNext_L11 at h
    intro H locs ls hZ hl
    replace hZ : ZZC G s M_11 H locs := hZ
    replace hl : lv_has ls 4 [(1, .int x1_11), (0, .ref (G.1 22))] := hl
    refine lv_iload_n hx0 hb d_Or_drawNext_11 rfl (lv_at hl 0 rfl) ?_
    refine lv_iconst (v := (1 : Int32)) hx0 hb d_Or_drawNext_12 (by decide) ?_
    refine lv_icmp_lt (tgt := 56) hx0 hb d_Or_drawNext_13 (by decide) (fun c11_1 => ?_) (fun c11_1 => ?_)
    · replace h := (if_pos c11_1).symm.trans h
      obtain rfl := Option.some.inj h
      exact hx _ _ _ hZ (lv_sub hl [] rfl)
    · replace h := (if_neg c11_1).symm.trans h
      refine lv_aload_n hx0 hb d_Or_drawNext_16 rfl (lv_at hl 1 rfl) ?_
      refine lv_iload_n hx0 hb d_Or_drawNext_17 rfl (lv_at hl 0 rfl) ?_
      refine lv_iconst (v := (1 : Int32)) hx0 hb d_Or_drawNext_18 (by decide) ?_
      refine lv_iadd hx0 hb d_Or_drawNext_19 ?_
      obtain ⟨q11_2, hc11_9, h⟩ := bnd_some h
      refine k_Or_Or_below [.int (x1_11 + (1 : Int32))] hx0 hb hml hts hown (c_Or_below l G (x1_11 + (1 : Int32)) M_11 q11_2 hc11_9) hZ rfl rfl ⟨Nat.le_of_ble_eq_true rfl, Nat.le_of_ble_eq_true rfl⟩ hl.1 rfl (Nat.le_of_ble_eq_true rfl) d_Or_drawNext_20 (fun H locs hZ => ?_)
      refine lv_istore_n (lv' := [(2, .int q11_2.1), (1, .int x1_11), (0, .ref (G.1 22))]) hx0 hb d_Or_drawNext_23 rfl hl (by decide) rfl (fun ls hl => ?_)
      refine lv_aload_n hx0 hb d_Or_drawNext_24 rfl (lv_at hl 2 rfl) ?_
      refine fg_Or_order hx0 hb hts hown hZ d_Or_drawNext_25 ?_
      refine lv_iload_n hx0 hb d_Or_drawNext_28 rfl (lv_at hl 1 rfl) ?_
      obtain ⟨hi11_3, h⟩ := chk_some h
      refine z_ialoadC (k := 23) hx0 hb hZ hi11_3 d_Or_drawNext_29 ?_
      refine lv_istore_n (lv' := [(3, .int (q11_2.2.1 23 (Int32.toNatClampNeg x1_11))), (2, .int q11_2.1), (1, .int x1_11), (0, .ref (G.1 22))]) hx0 hb d_Or_drawNext_30 rfl hl (by decide) rfl (fun ls hl => ?_)
      refine lv_aload_n hx0 hb d_Or_drawNext_31 rfl (lv_at hl 3 rfl) ?_
      refine fg_Or_order hx0 hb hts hown hZ d_Or_drawNext_32 ?_
      refine lv_iload_n hx0 hb d_Or_drawNext_35 rfl (lv_at hl 2 rfl) ?_
      refine lv_aload_n hx0 hb d_Or_drawNext_36 rfl (lv_at hl 3 rfl) ?_
      refine fg_Or_order hx0 hb hts hown hZ d_Or_drawNext_37 ?_
      refine lv_iload_n hx0 hb d_Or_drawNext_40 rfl (lv_at hl 1 rfl) ?_
      obtain ⟨hi11_4, h⟩ := chk_some h
      refine z_ialoadC (k := 23) hx0 hb hZ hi11_4 d_Or_drawNext_41 ?_
      obtain ⟨hi11_5, h⟩ := chk_some h
      refine z_iastoreC (k := 23) hx0 hb hZ hi11_5 d_Or_drawNext_42 (fun H locs hZ => ?_)
      obtain ⟨m11_6, em11_6, h⟩ := nm_some h
      rw [em11_6] at hZ
      refine lv_aload_n hx0 hb d_Or_drawNext_43 rfl (lv_at hl 3 rfl) ?_
      refine fg_Or_order hx0 hb hts hown hZ d_Or_drawNext_44 ?_
      refine lv_iload_n hx0 hb d_Or_drawNext_47 rfl (lv_at hl 1 rfl) ?_
      refine lv_iload_n hx0 hb d_Or_drawNext_48 rfl (lv_at hl 0 rfl) ?_
      obtain ⟨hi11_7, h⟩ := chk_some h
      refine z_iastoreC (k := 23) hx0 hb hZ hi11_7 d_Or_drawNext_49 (fun H locs hZ => ?_)
      obtain ⟨m11_8, em11_8, h⟩ := nm_some h
      rw [em11_8] at hZ
      refine lv_iinc (v := (x1_11 + (-1 : Int32))) (lv' := [(1, .int (x1_11 + (-1 : Int32))), (3, .int (q11_2.2.1 23 (Int32.toNatClampNeg x1_11))), (2, .int q11_2.1), (0, .ref (G.1 22))]) hx0 hb d_Or_drawNext_50 hl (k := 2) rfl rfl (by decide) rfl (fun ls hl => ?_)
      refine lv_goto (tgt := 11) hx0 hb d_Or_drawNext_53 (by decide) ?_
      obtain rfl := Option.some.inj h
      exact hx _ _ _ hZ (lv_sub hl [0, 3] rfl)
  · replace hZ : ZZC G s q2.2 H locs := hZ
    replace hl : lv_has ls 4 [] := hl
    obtain rfl := Option.some.inj h
    exact z_vretC hx0 hb hr hZ hlocks hQ d_Or_drawNext_56
abbrev rm_Or_groupsBefore : Room := ({ frames := 0, cells := 0, slots := 0, locals := 0 } : Room)
set_option maxHeartbeats 4000000 in
set_option maxRecDepth 100000 in
theorem c_Or_groupsBefore (l : Launch) (G : zG) (a1 : Int32) (M : Mem) (r : Int32) (h : p_Or_groupsBefore a1 M = some r) : MetZC l G y_Or_groupsBefore (Cond.code y_Or_groupsBefore b_Or_groupsBefore 4 (some .int) :: zws) rm_Or_groupsBefore [.ref (G.1 22), .int a1] M (some (.int r)) M := by
  unfold p_Or_groupsBefore at h
  refine z_ofWC (lv := [(0, .ref (G.1 22)), (1, .int a1)]) (by decide) (Nat.le_of_ble_eq_true rfl) rfl (fun p e R s m args below meth c Q ls F hl hZ => ?_)
  obtain ⟨hx0, hb, hml, hr, hts, hown, hlocks, rfl, hQ⟩ := F
  refine lv_iconst (v := (0 : Int32)) hx0 hb d_Or_groupsBefore_0 (by decide) ?_
  refine lv_istore_n (lv' := [(2, .int (0 : Int32)), (0, .ref (G.1 22)), (1, .int a1)]) hx0 hb d_Or_groupsBefore_1 rfl hl (by decide) rfl (fun ls hl => ?_)
  refine lv_iconst (v := (0 : Int32)) hx0 hb d_Or_groupsBefore_2 (by decide) ?_
  refine lv_istore_n (lv' := [(3, .int (0 : Int32)), (2, .int (0 : Int32)), (0, .ref (G.1 22)), (1, .int a1)]) hx0 hb d_Or_groupsBefore_3 rfl hl (by decide) rfl (fun ls hl => ?_)
  obtain ⟨q1, hq2, h⟩ := bnd_some h
  refine W_itr (At := fun (s0 : Int32 × Int32) => ∀ (H : Heap) (locs : List Loc) (ls : Array Slot), ZZC G s M H locs → lv_has ls 4 [(3, .int s0.2), (2, .int s0.1), (0, .ref (G.1 22)), (1, .int a1)] → W p l e rm_Or_groupsBefore s m args below meth c H locs 0 0 Q (F0 m 4 ls [])) (Ex := fun (q0 : Int32 × Int32) => ∀ (H : Heap) (locs : List Loc) (ls : Array Slot), ZZC G s M H locs → lv_has ls 4 [(2, .int q0.1)] → W p l e rm_Or_groupsBefore s m args below meth c H locs 0 0 Q (F0 m 39 ls [])) (fun s0 x h hx => ?_) _ _ q1 hq2 (fun H locs ls hZ hl => ?_) _ _ _ hZ (lv_sub hl [0, 1, 2, 3] rfl)
  · obtain ⟨x2_4, x3_4⟩ := s0
    replace h : p_Or_groupsBefore_L4 a1 M x2_4 x3_4 = some x := h
    unfold p_Or_groupsBefore_L4 at h
    intro H locs ls hZ hl
    replace hZ : ZZC G s M H locs := hZ
    replace hl : lv_has ls 4 [(3, .int x3_4), (2, .int x2_4), (0, .ref (G.1 22)), (1, .int a1)] := hl
    refine lv_iload_n hx0 hb d_Or_groupsBefore_4 rfl (lv_at hl 0 rfl) ?_
    refine lv_aload_n hx0 hb d_Or_groupsBefore_5 rfl (lv_at hl 2 rfl) ?_
    refine fg_Or_count hx0 hb hts hown hZ d_Or_groupsBefore_6 ?_
    refine lv_icmp_ge (tgt := 39) hx0 hb d_Or_groupsBefore_9 (by decide) (fun c4_1 => ?_) (fun c4_1 => ?_)
    · replace h := (if_pos c4_1).symm.trans h
      obtain rfl := Option.some.inj h
      exact hx _ _ _ hZ (lv_sub hl [1] rfl)
    · replace h := (if_neg c4_1).symm.trans h
      refine lv_aload_n hx0 hb d_Or_groupsBefore_12 rfl (lv_at hl 2 rfl) ?_
      refine fg_Or_order hx0 hb hts hown hZ d_Or_groupsBefore_13 ?_
      refine lv_iload_n hx0 hb d_Or_groupsBefore_16 rfl (lv_at hl 0 rfl) ?_
      obtain ⟨hi4_2, h⟩ := chk_some h
      refine z_ialoadC (k := 23) hx0 hb hZ hi4_2 d_Or_groupsBefore_17 ?_
      refine lv_iload_n hx0 hb d_Or_groupsBefore_18 rfl (lv_at hl 3 rfl) ?_
      refine lv_icmp_eq (tgt := 39) hx0 hb d_Or_groupsBefore_19 (by decide) (fun c4_3 => ?_) (fun c4_3 => ?_)
      · replace h := (if_pos c4_3).symm.trans h
        obtain rfl := Option.some.inj h
        exact hx _ _ _ hZ (lv_sub hl [1] rfl)
      · replace h := (if_neg c4_3).symm.trans h
        refine lv_iload_n hx0 hb d_Or_groupsBefore_22 rfl (lv_at hl 1 rfl) ?_
        refine lv_iconst (v := (1 : Int32)) hx0 hb d_Or_groupsBefore_23 (by decide) ?_
        refine lv_aload_n hx0 hb d_Or_groupsBefore_24 rfl (lv_at hl 2 rfl) ?_
        refine fg_Or_order hx0 hb hts hown hZ d_Or_groupsBefore_25 ?_
        refine lv_iload_n hx0 hb d_Or_groupsBefore_28 rfl (lv_at hl 0 rfl) ?_
        obtain ⟨hi4_4, h⟩ := chk_some h
        refine z_ialoadC (k := 23) hx0 hb hZ hi4_4 d_Or_groupsBefore_29 ?_
        refine lv_ishl hx0 hb d_Or_groupsBefore_30 ?_
        refine lv_ior hx0 hb d_Or_groupsBefore_31 ?_
        refine lv_istore_n (lv' := [(2, .int (x2_4 ||| ((1 : Int32) <<< ((M.1 23 (Int32.toNatClampNeg x3_4)) &&& 31)))), (3, .int x3_4), (0, .ref (G.1 22)), (1, .int a1)]) hx0 hb d_Or_groupsBefore_32 rfl hl (by decide) rfl (fun ls hl => ?_)
        refine lv_iinc (v := (x3_4 + (1 : Int32))) (lv' := [(3, .int (x3_4 + (1 : Int32))), (2, .int (x2_4 ||| ((1 : Int32) <<< ((M.1 23 (Int32.toNatClampNeg x3_4)) &&& 31)))), (0, .ref (G.1 22)), (1, .int a1)]) hx0 hb d_Or_groupsBefore_33 hl (k := 1) rfl rfl (by decide) rfl (fun ls hl => ?_)
        refine lv_goto (tgt := 4) hx0 hb d_Or_groupsBefore_36 (by decide) ?_
        obtain rfl := Option.some.inj h
        exact hx _ _ _ hZ (lv_sub hl [0, 1, 2, 3] rfl)
  · replace hZ : ZZC G s M H locs := hZ
    replace hl : lv_has ls 4 [(2, .int q1.1)] := hl
    refine lv_iload_n hx0 hb d_Or_groupsBefore_39 rfl (lv_at hl 0 rfl) ?_
    obtain rfl := Option.some.inj h
    exact z_iretC hx0 hb hr hZ hlocks hQ d_Or_groupsBefore_40
abbrev rm_ES_factorial : Room := ({ frames := 0, cells := 0, slots := 0, locals := 0 } : Room)
set_option maxHeartbeats 4000000 in
set_option maxRecDepth 100000 in
theorem c_ES_factorial (l : Launch) (G : zG) (a0 : Int32) (M : Mem) (r : Int64) (h : p_ES_factorial a0 M = some r) : MetZC l G y_ES_factorial (Cond.code y_ES_factorial b_ES_factorial 4 (some .long) :: zws) rm_ES_factorial [.int a0] M (some (.long r)) M := by
  unfold p_ES_factorial at h
  refine z_ofWC (lv := [(0, .int a0)]) (by decide) (Nat.le_of_ble_eq_true rfl) rfl (fun p e R s m args below meth c Q ls F hl hZ => ?_)
  obtain ⟨hx0, hb, hml, hr, hts, hown, hlocks, rfl, hQ⟩ := F
  refine lv_lconst (v := (1 : Int64)) hx0 hb d_ES_factorial_0 (by decide) ?_
  refine lv_lstore_n (lv' := [(1, .long (1 : Int64)), (0, .int a0)]) hx0 hb d_ES_factorial_1 rfl hl (by decide) rfl (fun ls hl => ?_)
  refine lv_iconst (v := (2 : Int32)) hx0 hb d_ES_factorial_2 (by decide) ?_
  refine lv_istore_n (lv' := [(3, .int (2 : Int32)), (1, .long (1 : Int64)), (0, .int a0)]) hx0 hb d_ES_factorial_3 rfl hl (by decide) rfl (fun ls hl => ?_)
  obtain ⟨q1, hq2, h⟩ := bnd_some h
  refine W_itr (At := fun (s0 : Int64 × Int32) => ∀ (H : Heap) (locs : List Loc) (ls : Array Slot), ZZC G s M H locs → lv_has ls 4 [(3, .int s0.2), (1, .long s0.1), (0, .int a0)] → W p l e rm_ES_factorial s m args below meth c H locs 0 0 Q (F0 m 4 ls [])) (Ex := fun (q0 : Int64 × Int32) => ∀ (H : Heap) (locs : List Loc) (ls : Array Slot), ZZC G s M H locs → lv_has ls 4 [(1, .long q0.1)] → W p l e rm_ES_factorial s m args below meth c H locs 0 0 Q (F0 m 20 ls [])) (fun s0 x h hx => ?_) _ _ q1 hq2 (fun H locs ls hZ hl => ?_) _ _ _ hZ (lv_sub hl [0, 1, 2] rfl)
  · obtain ⟨x1_4, x3_4⟩ := s0
    replace h : p_ES_factorial_L4 a0 x1_4 x3_4 = some x := h
    unfold p_ES_factorial_L4 at h
    intro H locs ls hZ hl
    replace hZ : ZZC G s M H locs := hZ
    replace hl : lv_has ls 4 [(3, .int x3_4), (1, .long x1_4), (0, .int a0)] := hl
    refine lv_iload_n hx0 hb d_ES_factorial_4 rfl (lv_at hl 0 rfl) ?_
    refine lv_iload_n hx0 hb d_ES_factorial_5 rfl (lv_at hl 2 rfl) ?_
    refine lv_icmp_gt (tgt := 20) hx0 hb d_ES_factorial_6 (by decide) (fun c4_1 => ?_) (fun c4_1 => ?_)
    · replace h := (if_pos c4_1).symm.trans h
      obtain rfl := Option.some.inj h
      exact hx _ _ _ hZ (lv_sub hl [1] rfl)
    · replace h := (if_neg c4_1).symm.trans h
      refine lv_lload_n hx0 hb d_ES_factorial_9 rfl (lv_at hl 1 rfl) ?_
      refine lv_iload_n hx0 hb d_ES_factorial_10 rfl (lv_at hl 0 rfl) ?_
      refine lv_i2l (v := Int32.toInt64 x3_4) hx0 hb d_ES_factorial_11 rfl ?_
      refine lv_lmul hx0 hb d_ES_factorial_12 ?_
      refine lv_lstore_n (lv' := [(1, .long (x1_4 * (Int32.toInt64 x3_4))), (3, .int x3_4), (0, .int a0)]) hx0 hb d_ES_factorial_13 rfl hl (by decide) rfl (fun ls hl => ?_)
      refine lv_iinc (v := (x3_4 + (1 : Int32))) (lv' := [(3, .int (x3_4 + (1 : Int32))), (1, .long (x1_4 * (Int32.toInt64 x3_4))), (0, .int a0)]) hx0 hb d_ES_factorial_14 hl (k := 1) rfl rfl (by decide) rfl (fun ls hl => ?_)
      refine lv_goto (tgt := 4) hx0 hb d_ES_factorial_17 (by decide) ?_
      obtain rfl := Option.some.inj h
      exact hx _ _ _ hZ (lv_sub hl [0, 1, 2] rfl)
  · replace hZ : ZZC G s M H locs := hZ
    replace hl : lv_has ls 4 [(1, .long q1.1)] := hl
    refine lv_lload_n hx0 hb d_ES_factorial_20 rfl (lv_at hl 0 rfl) ?_
    obtain rfl := Option.some.inj h
    exact z_lretC hx0 hb hr hZ hlocks hQ d_ES_factorial_21
abbrev rm_Me_ordersAround : Room := ({ frames := 1, cells := 0, slots := 0, locals := 23 } : Room)
set_option maxHeartbeats 4000000 in
set_option maxRecDepth 100000 in
theorem c_Me_ordersAround (l : Launch) (G : zG) (a0 : Int32) (a1 : Int32) (M : Mem) (r : Int64) (h : p_Me_ordersAround a0 a1 M = some r) : MetZC l G y_Me_ordersAround (Cond.code y_Me_ordersAround b_Me_ordersAround 3 (some .long) :: zws) rm_Me_ordersAround [.int a0, .int a1] M (some (.long r)) M := by
  unfold p_Me_ordersAround at h
  refine z_ofWC (lv := [(0, .int a0), (1, .int a1)]) (by decide) (Nat.le_of_ble_eq_true rfl) rfl (fun p e R s m args below meth c Q ls F hl hZ => ?_)
  obtain ⟨hx0, hb, hml, hr, hts, hown, hlocks, rfl, hQ⟩ := F
  refine lv_iload_n hx0 hb d_Me_ordersAround_0 rfl (lv_at hl 0 rfl) ?_
  obtain ⟨q1, hc6, h⟩ := bnd_some h
  refine k_Me_In_bitCount [.int a0] hx0 hb hml hts hown (c_In_bitCount l G a0 M q1 hc6) hZ rfl rfl ⟨Nat.le_of_ble_eq_true rfl, Nat.le_of_ble_eq_true rfl⟩ hl.1 rfl (Nat.le_of_ble_eq_true rfl) d_Me_ordersAround_1 (fun H locs hZ => ?_)
  refine lv_istore_n (lv' := [(2, .int q1), (0, .int a0), (1, .int a1)]) hx0 hb d_Me_ordersAround_4 rfl hl (by decide) rfl (fun ls hl => ?_)
  refine lv_iload_n hx0 hb d_Me_ordersAround_5 rfl (lv_at hl 0 rfl) ?_
  obtain ⟨q2, hc5, h⟩ := bnd_some h
  refine k_Me_ES_factorial [.int q1] hx0 hb hml hts hown (c_ES_factorial l G q1 M q2 hc5) hZ rfl rfl ⟨Nat.le_of_ble_eq_true rfl, Nat.le_of_ble_eq_true rfl⟩ hl.1 rfl (Nat.le_of_ble_eq_true rfl) d_Me_ordersAround_6 (fun H locs hZ => ?_)
  refine lv_iload_n hx0 hb d_Me_ordersAround_9 rfl (lv_at hl 2 rfl) ?_
  refine lv_iload_n hx0 hb d_Me_ordersAround_10 rfl (lv_at hl 0 rfl) ?_
  refine lv_isub hx0 hb d_Me_ordersAround_11 ?_
  obtain ⟨q3, hc4, h⟩ := bnd_some h
  refine k_Me_ES_factorial [.int (a1 - q1)] hx0 hb hml hts hown (c_ES_factorial l G (a1 - q1) M q3 hc4) hZ rfl rfl ⟨Nat.le_of_ble_eq_true rfl, Nat.le_of_ble_eq_true rfl⟩ hl.1 rfl (Nat.le_of_ble_eq_true rfl) d_Me_ordersAround_12 (fun H locs hZ => ?_)
  refine lv_lmul hx0 hb d_Me_ordersAround_15 ?_
  obtain rfl := Option.some.inj h
  exact z_lretC hx0 hb hr hZ hlocks hQ d_Me_ordersAround_16
abbrev rm_Me_mix : Room := ({ frames := 0, cells := 0, slots := 0, locals := 0 } : Room)
set_option maxHeartbeats 4000000 in
set_option maxRecDepth 100000 in
theorem c_Me_mix (l : Launch) (G : zG) (a1 : Int32) (a2 : Nat) (a3 : Nat) (M : Mem) (r : Mem) (h : p_Me_mix a1 a2 a3 M = some r) : MetZC l G y_Me_mix (Cond.code y_Me_mix b_Me_mix 5 none :: zws) rm_Me_mix [.ref (G.1 19), .int a1, .ref (G.1 a2), .ref (G.1 a3)] M none r := by
  unfold p_Me_mix at h
  refine z_ofWC (lv := [(0, .ref (G.1 19)), (1, .int a1), (2, .ref (G.1 a2)), (3, .ref (G.1 a3))]) (by decide) (Nat.le_of_ble_eq_true rfl) rfl (fun p e R s m args below meth c Q ls F hl hZ => ?_)
  obtain ⟨hx0, hb, hml, hr, hts, hown, hlocks, rfl, hQ⟩ := F
  refine lv_iconst (v := (0 : Int32)) hx0 hb d_Me_mix_0 (by decide) ?_
  refine lv_istore (lv' := [(4, .int (0 : Int32)), (0, .ref (G.1 19)), (1, .int a1), (2, .ref (G.1 a2)), (3, .ref (G.1 a3))]) hx0 hb d_Me_mix_1 hl (by decide) rfl (fun ls hl => ?_)
  obtain ⟨q1, hq2, h⟩ := bnd_some h
  refine W_itr (At := fun (s0 : Int32 × Mem) => ∀ (H : Heap) (locs : List Loc) (ls : Array Slot), ZZC G s s0.2 H locs → lv_has ls 5 [(4, .int s0.1), (0, .ref (G.1 19)), (1, .int a1), (2, .ref (G.1 a2)), (3, .ref (G.1 a3))] → W p l e rm_Me_mix s m args below meth c H locs 0 0 Q (F0 m 3 ls [])) (Ex := fun (q0 : Int32 × Mem) => ∀ (H : Heap) (locs : List Loc) (ls : Array Slot), ZZC G s q0.2 H locs → lv_has ls 5 [] → W p l e rm_Me_mix s m args below meth c H locs 0 0 Q (F0 m 44 ls [])) (fun s0 x h hx => ?_) _ _ q1 hq2 (fun H locs ls hZ hl => ?_) _ _ _ hZ (lv_sub hl [0, 1, 2, 3, 4] rfl)
  · obtain ⟨x4_3, M_3⟩ := s0
    replace h : p_Me_mix_L3 a1 a2 a3 x4_3 M_3 = some x := h
    unfold p_Me_mix_L3 at h
    intro H locs ls hZ hl
    replace hZ : ZZC G s M_3 H locs := hZ
    replace hl : lv_has ls 5 [(4, .int x4_3), (0, .ref (G.1 19)), (1, .int a1), (2, .ref (G.1 a2)), (3, .ref (G.1 a3))] := hl
    refine lv_iload hx0 hb d_Me_mix_3 (lv_at hl 0 rfl) ?_
    refine lv_bipush (v := (6 : Int32)) hx0 hb d_Me_mix_5 (by decide) ?_
    refine lv_icmp_ge (tgt := 44) hx0 hb d_Me_mix_7 (by decide) (fun c3_1 => ?_) (fun c3_1 => ?_)
    · replace h := (if_pos c3_1).symm.trans h
      obtain rfl := Option.some.inj h
      exact hx _ _ _ hZ (lv_sub hl [] rfl)
    · replace h := (if_neg c3_1).symm.trans h
      refine lv_aload_n hx0 hb d_Me_mix_10 rfl (lv_at hl 1 rfl) ?_
      refine fg_Me_mixed hx0 hb hts hown hZ d_Me_mix_11 ?_
      refine lv_iload hx0 hb d_Me_mix_14 (lv_at hl 0 rfl) ?_
      refine lv_iload_n hx0 hb d_Me_mix_16 rfl (lv_at hl 2 rfl) ?_
      refine lv_iload hx0 hb d_Me_mix_17 (lv_at hl 0 rfl) ?_
      refine lv_ishr hx0 hb d_Me_mix_19 ?_
      refine lv_iconst (v := (1 : Int32)) hx0 hb d_Me_mix_20 (by decide) ?_
      refine lv_iand hx0 hb d_Me_mix_21 ?_
      refine lv_iconst (v := (1 : Int32)) hx0 hb d_Me_mix_22 (by decide) ?_
      refine lv_icmp_ne (tgt := 33) hx0 hb d_Me_mix_23 (by decide) (fun c3_2 => ?_) (fun c3_2 => ?_)
      · replace h := (if_neg c3_2).symm.trans h
        refine lv_aload_n hx0 hb d_Me_mix_33 rfl (lv_at hl 4 rfl) ?_
        refine lv_iload hx0 hb d_Me_mix_34 (lv_at hl 0 rfl) ?_
        obtain ⟨hi3_3, h⟩ := chk_some h
        refine z_ialoadC (k := a3) hx0 hb hZ hi3_3 d_Me_mix_36 ?_
        obtain ⟨hi3_4, h⟩ := chk_some h
        refine z_iastoreC (k := 20) hx0 hb hZ hi3_4 d_Me_mix_37 (fun H locs hZ => ?_)
        obtain ⟨m3_5, em3_5, h⟩ := nm_some h
        rw [em3_5] at hZ
        refine lv_iinc (v := (x4_3 + (1 : Int32))) (lv' := [(4, .int (x4_3 + (1 : Int32))), (0, .ref (G.1 19)), (1, .int a1), (2, .ref (G.1 a2)), (3, .ref (G.1 a3))]) hx0 hb d_Me_mix_38 hl (k := 0) rfl rfl (by decide) rfl (fun ls hl => ?_)
        refine lv_goto (tgt := 3) hx0 hb d_Me_mix_41 (by decide) ?_
        obtain rfl := Option.some.inj h
        exact hx _ _ _ hZ (lv_sub hl [0, 1, 2, 3, 4] rfl)
      · replace h := (if_pos c3_2).symm.trans h
        refine lv_aload_n hx0 hb d_Me_mix_26 rfl (lv_at hl 3 rfl) ?_
        refine lv_iload hx0 hb d_Me_mix_27 (lv_at hl 0 rfl) ?_
        obtain ⟨hi3_6, h⟩ := chk_some h
        refine z_ialoadC (k := a2) hx0 hb hZ hi3_6 d_Me_mix_29 ?_
        refine lv_goto (tgt := 37) hx0 hb d_Me_mix_30 (by decide) ?_
        obtain ⟨hi3_7, h⟩ := chk_some h
        refine z_iastoreC (k := 20) hx0 hb hZ hi3_7 d_Me_mix_37 (fun H locs hZ => ?_)
        obtain ⟨m3_8, em3_8, h⟩ := nm_some h
        rw [em3_8] at hZ
        refine lv_iinc (v := (x4_3 + (1 : Int32))) (lv' := [(4, .int (x4_3 + (1 : Int32))), (0, .ref (G.1 19)), (1, .int a1), (2, .ref (G.1 a2)), (3, .ref (G.1 a3))]) hx0 hb d_Me_mix_38 hl (k := 0) rfl rfl (by decide) rfl (fun ls hl => ?_)
        refine lv_goto (tgt := 3) hx0 hb d_Me_mix_41 (by decide) ?_
        obtain rfl := Option.some.inj h
        exact hx _ _ _ hZ (lv_sub hl [0, 1, 2, 3, 4] rfl)
  · replace hZ : ZZC G s q1.2 H locs := hZ
    replace hl : lv_has ls 5 [] := hl
    obtain rfl := Option.some.inj h
    exact z_vretC hx0 hb hr hZ hlocks hQ d_Me_mix_44
abbrev rm_Me_total : Room := ({ frames := 2, cells := 0, slots := 0, locals := 48 } : Room)
set_option maxHeartbeats 4000000 in
set_option maxRecDepth 100000 in
theorem c_Me_total (l : Launch) (G : zG) (a1 : Int32) (M : Mem) (r : Int64 × Mem) (h : p_Me_total a1 M = some r) : MetZC l G y_Me_total (Cond.code y_Me_total b_Me_total 5 (some .long) :: zws) rm_Me_total [.ref (G.1 19), .int a1] M (some (.long r.1)) r.2 := by
  unfold p_Me_total at h
  refine z_ofWC (lv := [(0, .ref (G.1 19)), (1, .int a1)]) (by decide) (Nat.le_of_ble_eq_true rfl) rfl (fun p e R s m args below meth c Q ls F hl hZ => ?_)
  obtain ⟨hx0, hb, hml, hr, hts, hown, hlocks, rfl, hQ⟩ := F
  refine lv_lconst (v := (0 : Int64)) hx0 hb d_Me_total_0 (by decide) ?_
  refine lv_lstore_n (lv' := [(2, .long (0 : Int64)), (0, .ref (G.1 19)), (1, .int a1)]) hx0 hb d_Me_total_1 rfl hl (by decide) rfl (fun ls hl => ?_)
  refine lv_iconst (v := (0 : Int32)) hx0 hb d_Me_total_2 (by decide) ?_
  refine lv_istore (lv' := [(4, .int (0 : Int32)), (2, .long (0 : Int64)), (0, .ref (G.1 19)), (1, .int a1)]) hx0 hb d_Me_total_3 hl (by decide) rfl (fun ls hl => ?_)
  obtain ⟨q1, hq2, h⟩ := bnd_some h
  refine W_itr (At := fun (s0 : Int64 × Int32 × Mem) => ∀ (H : Heap) (locs : List Loc) (ls : Array Slot), ZZC G s s0.2.2 H locs → lv_has ls 5 [(4, .int s0.2.1), (2, .long s0.1), (0, .ref (G.1 19)), (1, .int a1)] → W p l e rm_Me_total s m args below meth c H locs 0 0 Q (F0 m 5 ls [])) (Ex := fun (q0 : Int64 × Int32 × Mem) => ∀ (H : Heap) (locs : List Loc) (ls : Array Slot), ZZC G s q0.2.2 H locs → lv_has ls 5 [(2, .long q0.1)] → W p l e rm_Me_total s m args below meth c H locs 0 0 Q (F0 m 60 ls [])) (fun s0 x h hx => ?_) _ _ q1 hq2 (fun H locs ls hZ hl => ?_) _ _ _ hZ (lv_sub hl [0, 1, 2, 3] rfl)
  · obtain ⟨x2_5, x4_5, M_5⟩ := s0
    replace h : p_Me_total_L5 a1 x2_5 x4_5 M_5 = some x := h
    unfold p_Me_total_L5 at h
    intro H locs ls hZ hl
    replace hZ : ZZC G s M_5 H locs := hZ
    replace hl : lv_has ls 5 [(4, .int x4_5), (2, .long x2_5), (0, .ref (G.1 19)), (1, .int a1)] := hl
    refine lv_iload hx0 hb d_Me_total_5 (lv_at hl 0 rfl) ?_
    refine lv_aload_n hx0 hb d_Me_total_7 rfl (lv_at hl 2 rfl) ?_
    refine fg_Me_rows hx0 hb hts hown hZ d_Me_total_8 ?_
    obtain ⟨q5_1, hc5_11, h⟩ := bnd_some h
    refine k_Me_Rw_count [] hx0 hb hml hts hown (c_Rw_count l G  M_5 q5_1 hc5_11) hZ rfl rfl ⟨Nat.le_of_ble_eq_true rfl, Nat.le_of_ble_eq_true rfl⟩ hl.1 rfl (Nat.le_of_ble_eq_true rfl) d_Me_total_11 (fun H locs hZ => ?_)
    refine lv_icmp_ge (tgt := 60) hx0 hb d_Me_total_14 (by decide) (fun c5_2 => ?_) (fun c5_2 => ?_)
    · replace h := (if_pos c5_2).symm.trans h
      obtain rfl := Option.some.inj h
      exact hx _ _ _ hZ (lv_sub hl [1] rfl)
    · replace h := (if_neg c5_2).symm.trans h
      refine lv_aload_n hx0 hb d_Me_total_17 rfl (lv_at hl 2 rfl) ?_
      refine lv_iload_n hx0 hb d_Me_total_18 rfl (lv_at hl 3 rfl) ?_
      refine lv_aload_n hx0 hb d_Me_total_19 rfl (lv_at hl 2 rfl) ?_
      refine fg_Me_rows hx0 hb hts hown hZ d_Me_total_20 ?_
      refine lv_iconst (v := (-1 : Int32)) hx0 hb d_Me_total_23 (by decide) ?_
      obtain ⟨q5_3, hc5_10, h⟩ := bnd_some h
      refine k_Me_Rw_at [.int (-1 : Int32)] hx0 hb hml hts hown (c_Rw_at l G (-1 : Int32) M_5 q5_3 hc5_10) hZ rfl rfl ⟨Nat.le_of_ble_eq_true rfl, Nat.le_of_ble_eq_true rfl⟩ hl.1 rfl (Nat.le_of_ble_eq_true rfl) d_Me_total_24 (fun H locs hZ => ?_)
      refine lv_aload_n hx0 hb d_Me_total_27 rfl (lv_at hl 2 rfl) ?_
      refine fg_Me_rows hx0 hb hts hown hZ d_Me_total_28 ?_
      refine lv_iload hx0 hb d_Me_total_31 (lv_at hl 0 rfl) ?_
      obtain ⟨q5_4, hc5_9, h⟩ := bnd_some h
      refine k_Me_Rw_at [.int x4_5] hx0 hb hml hts hown (c_Rw_at l G x4_5 M_5 q5_4 hc5_9) hZ rfl rfl ⟨Nat.le_of_ble_eq_true rfl, Nat.le_of_ble_eq_true rfl⟩ hl.1 rfl (Nat.le_of_ble_eq_true rfl) d_Me_total_33 (fun H locs hZ => ?_)
      obtain ⟨q5_5, hc5_8, h⟩ := bnd_some h
      refine k_Me_Me_mix [.int a1, .ref (G.1 q5_3), .ref (G.1 q5_4)] hx0 hb hml hts hown (c_Me_mix l G a1 q5_3 q5_4 M_5 q5_5 hc5_8) hZ rfl rfl ⟨Nat.le_of_ble_eq_true rfl, Nat.le_of_ble_eq_true rfl⟩ hl.1 rfl (Nat.le_of_ble_eq_true rfl) d_Me_total_36 (fun H locs hZ => ?_)
      refine lv_lload_n hx0 hb d_Me_total_39 rfl (lv_at hl 1 rfl) ?_
      refine lv_aload_n hx0 hb d_Me_total_40 rfl (lv_at hl 2 rfl) ?_
      refine fg_Me_learner hx0 hb hts hown hZ d_Me_total_41 ?_
      refine lv_aload_n hx0 hb d_Me_total_44 rfl (lv_at hl 2 rfl) ?_
      refine fg_Me_mixed hx0 hb hts hown hZ d_Me_total_45 ?_
      obtain ⟨q5_6, hc5_7, h⟩ := bnd_some h
      refine k_Me_Ln_sumFor [.ref (G.1 20)] hx0 hb hml hts hown (c_Ln_sumFor l G 20 q5_5 q5_6 hc5_7) hZ rfl rfl ⟨Nat.le_of_ble_eq_true rfl, Nat.le_of_ble_eq_true rfl⟩ hl.1 rfl (Nat.le_of_ble_eq_true rfl) d_Me_total_48 (fun H locs hZ => ?_)
      refine lv_i2l (v := Int32.toInt64 q5_6) hx0 hb d_Me_total_51 rfl ?_
      refine lv_ladd hx0 hb d_Me_total_52 ?_
      refine lv_lstore_n (lv' := [(2, .long (x2_5 + (Int32.toInt64 q5_6))), (4, .int x4_5), (0, .ref (G.1 19)), (1, .int a1)]) hx0 hb d_Me_total_53 rfl hl (by decide) rfl (fun ls hl => ?_)
      refine lv_iinc (v := (x4_5 + (1 : Int32))) (lv' := [(4, .int (x4_5 + (1 : Int32))), (2, .long (x2_5 + (Int32.toInt64 q5_6))), (0, .ref (G.1 19)), (1, .int a1)]) hx0 hb d_Me_total_54 hl (k := 1) rfl rfl (by decide) rfl (fun ls hl => ?_)
      refine lv_goto (tgt := 5) hx0 hb d_Me_total_57 (by decide) ?_
      obtain rfl := Option.some.inj h
      exact hx _ _ _ hZ (lv_sub hl [0, 1, 2, 3] rfl)
  · replace hZ : ZZC G s q1.2.2 H locs := hZ
    replace hl : lv_has ls 5 [(2, .long q1.1)] := hl
    refine lv_lload_n hx0 hb d_Me_total_60 rfl (lv_at hl 0 rfl) ?_
    obtain rfl := Option.some.inj h
    exact z_lretC hx0 hb hr hZ hlocks hQ d_Me_total_61
