abbrev rm_Md_clear : Room := ({ frames := 0, cells := 0, slots := 0, locals := 0 } : Room)
set_option maxHeartbeats 4000000 in
set_option maxRecDepth 100000 in
theorem c_Md_clear (l : Launch) (G : zG)  (M : Mem) (r : Int32 × Mem) (h : p_Md_clear  M = some r) : MetZT l G y_Md_clear (Cond.code y_Md_clear b_Md_clear 3 (some .int) :: zws) rm_Md_clear [.ref (G.1 0)] M (some (.int r.1)) r.2 := by
  unfold p_Md_clear at h
  refine z_ofWT (lv := [(0, .ref (G.1 0))]) (by decide) (Nat.le_of_ble_eq_true rfl) rfl (fun p e R s m args below meth c Q ls F hl hZ => ?_)
  obtain ⟨hx0, hb, hml, hr, hts, hown, hlocks, rfl, hQ⟩ := F
  refine lv_aload_n hx0 hb d_Md_clear_0 rfl (lv_at hl 0 rfl) ?_
  refine lv_iconst (v := (0 : Int32)) hx0 hb d_Md_clear_1 (by decide) ?_
  refine fp_Md_code hx0 hb hts hown hZ d_Md_clear_2 (fun H locs hZ => ?_)
  obtain ⟨m1, em1, h⟩ := nm_some h
  rw [em1] at hZ
  refine lv_aload_n hx0 hb d_Md_clear_5 rfl (lv_at hl 0 rfl) ?_
  refine fg_Md_nodes hx0 hb hts hown hZ d_Md_clear_6 ?_
  refine lv_istore_n (lv' := [(1, .int (m1.1 0 2)), (0, .ref (G.1 0))]) hx0 hb d_Md_clear_9 rfl hl (by decide) rfl (fun ls hl => ?_)
  refine lv_aload_n hx0 hb d_Md_clear_10 rfl (lv_at hl 1 rfl) ?_
  refine lv_iconst (v := (0 : Int32)) hx0 hb d_Md_clear_11 (by decide) ?_
  refine fp_Md_nodes hx0 hb hts hown hZ d_Md_clear_12 (fun H locs hZ => ?_)
  obtain ⟨m2, em2, h⟩ := nm_some h
  rw [em2] at hZ
  refine lv_aload_n hx0 hb d_Md_clear_15 rfl (lv_at hl 1 rfl) ?_
  refine lv_iconst (v := (0 : Int32)) hx0 hb d_Md_clear_16 (by decide) ?_
  refine fp_Md_roots hx0 hb hts hown hZ d_Md_clear_17 (fun H locs hZ => ?_)
  obtain ⟨m3, em3, h⟩ := nm_some h
  rw [em3] at hZ
  refine lv_aload_n hx0 hb d_Md_clear_20 rfl (lv_at hl 1 rfl) ?_
  refine lv_iconst (v := (0 : Int32)) hx0 hb d_Md_clear_21 (by decide) ?_
  refine fp_Md_rows hx0 hb hts hown hZ d_Md_clear_22 (fun H locs hZ => ?_)
  obtain ⟨m4, em4, h⟩ := nm_some h
  rw [em4] at hZ
  refine lv_iconst (v := (0 : Int32)) hx0 hb d_Md_clear_25 (by decide) ?_
  refine lv_istore_n (lv' := [(2, .int (0 : Int32)), (1, .int (m1.1 0 2)), (0, .ref (G.1 0))]) hx0 hb d_Md_clear_26 rfl hl (by decide) rfl (fun ls hl => ?_)
  obtain ⟨q5, hq6, h⟩ := bnd_some h
  refine W_itr (At := fun (s0 : Int32 × Mem) => ∀ (H : Heap) (locs : List Loc) (ls : Array Slot), ZZT G s s0.2 H locs → lv_has ls 3 [(2, .int s0.1), (1, .int (m1.1 0 2)), (0, .ref (G.1 0))] → W p l e rm_Md_clear s m args below meth c H locs 0 0 Q (F0 m 27 ls [])) (Ex := fun (q0 : Int32 × Mem) => ∀ (H : Heap) (locs : List Loc) (ls : Array Slot), ZZT G s q0.2 H locs → lv_has ls 3 [(1, .int (m1.1 0 2))] → W p l e rm_Md_clear s m args below meth c H locs 0 0 Q (F0 m 67 ls [])) (fun s0 x h hx => ?_) _ _ q5 hq6 (fun H locs ls hZ hl => ?_) _ _ _ hZ (lv_sub hl [0, 1, 2] rfl)
  · obtain ⟨x2_27, M_27⟩ := s0
    replace h : p_Md_clear_L27 x2_27 M_27 = some x := h
    unfold p_Md_clear_L27 at h
    intro H locs ls hZ hl
    replace hZ : ZZT G s M_27 H locs := hZ
    replace hl : lv_has ls 3 [(2, .int x2_27), (1, .int (m1.1 0 2)), (0, .ref (G.1 0))] := hl
    refine lv_iload_n hx0 hb d_Md_clear_27 rfl (lv_at hl 0 rfl) ?_
    refine lv_bipush (v := (6 : Int32)) hx0 hb d_Md_clear_28 (by decide) ?_
    refine lv_icmp_ge (tgt := 67) hx0 hb d_Md_clear_30 (by decide) (fun c27_1 => ?_) (fun c27_1 => ?_)
    · replace h := (if_pos c27_1).symm.trans h
      obtain rfl := Option.some.inj h
      exact hx _ _ _ hZ (lv_sub hl [1] rfl)
    · replace h := (if_neg c27_1).symm.trans h
      refine lv_aload_n hx0 hb d_Md_clear_33 rfl (lv_at hl 2 rfl) ?_
      refine fg_Md_weights hx0 hb hts hown hZ d_Md_clear_34 ?_
      refine lv_iload_n hx0 hb d_Md_clear_37 rfl (lv_at hl 0 rfl) ?_
      refine lv_iconst (v := (0 : Int32)) hx0 hb d_Md_clear_38 (by decide) ?_
      obtain ⟨hi27_2, h⟩ := chk_some h
      refine z_iastoreT (k := 7) hx0 hb hZ hi27_2 d_Md_clear_39 (fun H locs hZ => ?_)
      obtain ⟨m27_3, em27_3, h⟩ := nm_some h
      rw [em27_3] at hZ
      refine lv_aload_n hx0 hb d_Md_clear_40 rfl (lv_at hl 2 rfl) ?_
      refine fg_Md_items hx0 hb hts hown hZ d_Md_clear_41 ?_
      refine lv_iload_n hx0 hb d_Md_clear_44 rfl (lv_at hl 0 rfl) ?_
      refine lv_iconst (v := (0 : Int32)) hx0 hb d_Md_clear_45 (by decide) ?_
      obtain ⟨hi27_4, h⟩ := chk_some h
      refine z_iastoreT (k := 10) hx0 hb hZ hi27_4 d_Md_clear_46 (fun H locs hZ => ?_)
      obtain ⟨m27_5, em27_5, h⟩ := nm_some h
      rw [em27_5] at hZ
      refine lv_aload_n hx0 hb d_Md_clear_47 rfl (lv_at hl 2 rfl) ?_
      refine fg_Md_groups hx0 hb hts hown hZ d_Md_clear_48 ?_
      refine lv_iload_n hx0 hb d_Md_clear_51 rfl (lv_at hl 0 rfl) ?_
      refine lv_iload_n hx0 hb d_Md_clear_52 rfl (lv_at hl 0 rfl) ?_
      obtain ⟨hi27_6, h⟩ := chk_some h
      refine z_iastoreT (k := 8) hx0 hb hZ hi27_6 d_Md_clear_53 (fun H locs hZ => ?_)
      obtain ⟨m27_7, em27_7, h⟩ := nm_some h
      rw [em27_7] at hZ
      refine lv_aload_n hx0 hb d_Md_clear_54 rfl (lv_at hl 2 rfl) ?_
      refine fg_Md_barred hx0 hb hts hown hZ d_Md_clear_55 ?_
      refine lv_iload_n hx0 hb d_Md_clear_58 rfl (lv_at hl 0 rfl) ?_
      refine lv_iconst (v := (0 : Int32)) hx0 hb d_Md_clear_59 (by decide) ?_
      obtain ⟨hi27_8, h⟩ := chk_some h
      refine z_bastoreT (k := 9) hx0 hb hZ hi27_8 d_Md_clear_60 (fun H locs hZ => ?_)
      obtain ⟨m27_9, em27_9, h⟩ := nm_some h
      rw [em27_9] at hZ
      refine lv_iinc (v := (x2_27 + (1 : Int32))) (lv' := [(2, .int (x2_27 + (1 : Int32))), (1, .int (m1.1 0 2)), (0, .ref (G.1 0))]) hx0 hb d_Md_clear_61 hl (k := 0) rfl rfl (by decide) rfl (fun ls hl => ?_)
      refine lv_goto (tgt := 27) hx0 hb d_Md_clear_64 (by decide) ?_
      obtain rfl := Option.some.inj h
      exact hx _ _ _ hZ (lv_sub hl [0, 1, 2] rfl)
  · replace hZ : ZZT G s q5.2 H locs := hZ
    replace hl : lv_has ls 3 [(1, .int (m1.1 0 2))] := hl
    refine lv_iload_n hx0 hb d_Md_clear_67 rfl (lv_at hl 0 rfl) ?_
    obtain rfl := Option.some.inj h
    exact z_iretT hx0 hb hr hZ hlocks hQ d_Md_clear_68
abbrev rm_Md_thrown : Room := ({ frames := 0, cells := 0, slots := 0, locals := 0 } : Room)
set_option maxHeartbeats 4000000 in
set_option maxRecDepth 100000 in
theorem c_Md_thrown (l : Launch) (G : zG)  (M : Mem) (r : Int32) (h : p_Md_thrown  M = some r) : MetZT l G y_Md_thrown (Cond.code y_Md_thrown b_Md_thrown 1 (some .int) :: zws) rm_Md_thrown [.ref (G.1 0)] M (some (.int r)) M := by
  unfold p_Md_thrown at h
  refine z_ofWT (lv := [(0, .ref (G.1 0))]) (by decide) (Nat.le_of_ble_eq_true rfl) rfl (fun p e R s m args below meth c Q ls F hl hZ => ?_)
  obtain ⟨hx0, hb, hml, hr, hts, hown, hlocks, rfl, hQ⟩ := F
  refine lv_aload_n hx0 hb d_Md_thrown_0 rfl (lv_at hl 0 rfl) ?_
  refine fg_Md_code hx0 hb hts hown hZ d_Md_thrown_1 ?_
  obtain rfl := Option.some.inj h
  exact z_iretT hx0 hb hr hZ hlocks hQ d_Md_thrown_4
abbrev rm_Md_in : Room := ({ frames := 0, cells := 0, slots := 0, locals := 0 } : Room)
set_option maxHeartbeats 4000000 in
set_option maxRecDepth 100000 in
theorem c_Md_in (l : Launch) (G : zG) (a0 : Int32) (a1 : Int32) (a2 : Int32) (M : Mem) (r : Int32) (h : p_Md_in a0 a1 a2 M = some r) : MetZT l G y_Md_in (Cond.code y_Md_in b_Md_in 3 (some .boolean) :: zws) rm_Md_in [.int a0, .int a1, .int a2] M (some (.int r)) M := by
  unfold p_Md_in at h
  refine z_ofWT (lv := [(0, .int a0), (1, .int a1), (2, .int a2)]) (by decide) (Nat.le_of_ble_eq_true rfl) rfl (fun p e R s m args below meth c Q ls F hl hZ => ?_)
  obtain ⟨hx0, hb, hml, hr, hts, hown, hlocks, rfl, hQ⟩ := F
  refine lv_iload_n hx0 hb d_Md_in_0 rfl (lv_at hl 0 rfl) ?_
  refine lv_iload_n hx0 hb d_Md_in_1 rfl (lv_at hl 1 rfl) ?_
  refine lv_icmp_lt (tgt := 14) hx0 hb d_Md_in_2 (by decide) (fun c1 => ?_) (fun c1 => ?_)
  · replace h := (if_pos c1).symm.trans h
    refine lv_iconst (v := (0 : Int32)) hx0 hb d_Md_in_14 (by decide) ?_
    obtain rfl := Option.some.inj h
    exact z_zretT hx0 hb hr hZ hlocks hQ rfl d_Md_in_15
  · replace h := (if_neg c1).symm.trans h
    refine lv_iload_n hx0 hb d_Md_in_5 rfl (lv_at hl 0 rfl) ?_
    refine lv_iload_n hx0 hb d_Md_in_6 rfl (lv_at hl 2 rfl) ?_
    refine lv_icmp_gt (tgt := 14) hx0 hb d_Md_in_7 (by decide) (fun c2 => ?_) (fun c2 => ?_)
    · replace h := (if_pos c2).symm.trans h
      refine lv_iconst (v := (0 : Int32)) hx0 hb d_Md_in_14 (by decide) ?_
      obtain rfl := Option.some.inj h
      exact z_zretT hx0 hb hr hZ hlocks hQ rfl d_Md_in_15
    · replace h := (if_neg c2).symm.trans h
      refine lv_iconst (v := (1 : Int32)) hx0 hb d_Md_in_10 (by decide) ?_
      refine lv_goto (tgt := 15) hx0 hb d_Md_in_11 (by decide) ?_
      obtain rfl := Option.some.inj h
      exact z_zretT hx0 hb hr hZ hlocks hQ rfl d_Md_in_15
abbrev rm_Md_leaf : Room := ({ frames := 1, cells := 0, slots := 0, locals := 22 } : Room)
set_option maxHeartbeats 4000000 in
set_option maxRecDepth 100000 in
theorem c_Md_leaf (l : Launch) (G : zG) (a1 : Int32) (M : Mem) (r : Int32 × Mem) (h : p_Md_leaf a1 M = some r) : MetZT l G y_Md_leaf (Cond.code y_Md_leaf b_Md_leaf 2 (some .int) :: zws) rm_Md_leaf [.ref (G.1 0), .int a1] M (some (.int r.1)) r.2 := by
  unfold p_Md_leaf at h
  refine z_ofWT (lv := [(0, .ref (G.1 0)), (1, .int a1)]) (by decide) (Nat.le_of_ble_eq_true rfl) rfl (fun p e R s m args below meth c Q ls F hl hZ => ?_)
  obtain ⟨hx0, hb, hml, hr, hts, hown, hlocks, rfl, hQ⟩ := F
  refine lv_aload_n hx0 hb d_Md_leaf_0 rfl (lv_at hl 0 rfl) ?_
  refine lv_iconst (v := (0 : Int32)) hx0 hb d_Md_leaf_1 (by decide) ?_
  refine fp_Md_code hx0 hb hts hown hZ d_Md_leaf_2 (fun H locs hZ => ?_)
  obtain ⟨m1, em1, h⟩ := nm_some h
  rw [em1] at hZ
  refine lv_iload_n hx0 hb d_Md_leaf_5 rfl (lv_at hl 1 rfl) ?_
  refine lv_sipush (v := (-1000 : Int32)) hx0 hb d_Md_leaf_6 (by decide) ?_
  refine lv_sipush (v := (1000 : Int32)) hx0 hb d_Md_leaf_9 (by decide) ?_
  obtain ⟨q2, hc10, h⟩ := bnd_some h
  refine k_Md_Md_in [.int a1, .int (-1000 : Int32), .int (1000 : Int32)] hx0 hb hml hts hown (c_Md_in l G a1 (-1000 : Int32) (1000 : Int32) m1 q2 hc10) hZ rfl rfl ⟨Nat.le_of_ble_eq_true rfl, Nat.le_of_ble_eq_true rfl⟩ hl.1 rfl (Nat.le_of_ble_eq_true rfl) d_Md_leaf_12 (fun H locs hZ => ?_)
  refine lv_if_ne (tgt := 21) hx0 hb d_Md_leaf_15 (by decide) (fun c3 => ?_) (fun c3 => ?_)
  · replace h := (if_neg c3).symm.trans h
    refine lv_aload_n hx0 hb d_Md_leaf_21 rfl (lv_at hl 0 rfl) ?_
    refine fg_Md_nodes hx0 hb hts hown hZ d_Md_leaf_22 ?_
    refine lv_bipush (v := (30 : Int32)) hx0 hb d_Md_leaf_25 (by decide) ?_
    refine lv_icmp_ne (tgt := 33) hx0 hb d_Md_leaf_27 (by decide) (fun c4 => ?_) (fun c4 => ?_)
    · replace h := (if_neg c4).symm.trans h
      refine lv_aload_n hx0 hb d_Md_leaf_33 rfl (lv_at hl 0 rfl) ?_
      refine fg_Md_isLeaf hx0 hb hts hown hZ d_Md_leaf_34 ?_
      refine lv_aload_n hx0 hb d_Md_leaf_37 rfl (lv_at hl 0 rfl) ?_
      refine fg_Md_nodes hx0 hb hts hown hZ d_Md_leaf_38 ?_
      refine lv_iconst (v := (1 : Int32)) hx0 hb d_Md_leaf_41 (by decide) ?_
      obtain ⟨hi5, h⟩ := chk_some h
      refine z_bastoreT (k := 1) hx0 hb hZ hi5 d_Md_leaf_42 (fun H locs hZ => ?_)
      obtain ⟨m6, em6, h⟩ := nm_some h
      rw [em6] at hZ
      refine lv_aload_n hx0 hb d_Md_leaf_43 rfl (lv_at hl 0 rfl) ?_
      refine fg_Md_number hx0 hb hts hown hZ d_Md_leaf_44 ?_
      refine lv_aload_n hx0 hb d_Md_leaf_47 rfl (lv_at hl 0 rfl) ?_
      refine fg_Md_nodes hx0 hb hts hown hZ d_Md_leaf_48 ?_
      refine lv_iload_n hx0 hb d_Md_leaf_51 rfl (lv_at hl 1 rfl) ?_
      obtain ⟨hi7, h⟩ := chk_some h
      refine z_iastoreT (k := 2) hx0 hb hZ hi7 d_Md_leaf_52 (fun H locs hZ => ?_)
      obtain ⟨m8, em8, h⟩ := nm_some h
      rw [em8] at hZ
      refine lv_aload_n hx0 hb d_Md_leaf_53 rfl (lv_at hl 0 rfl) ?_
      refine lv_dup hx0 hb d_Md_leaf_54 rfl ?_
      refine fg_Md_nodes hx0 hb hts hown hZ d_Md_leaf_55 ?_
      refine lv_iconst (v := (1 : Int32)) hx0 hb d_Md_leaf_58 (by decide) ?_
      refine lv_iadd hx0 hb d_Md_leaf_59 ?_
      refine fp_Md_nodes hx0 hb hts hown hZ d_Md_leaf_60 (fun H locs hZ => ?_)
      obtain ⟨m9, em9, h⟩ := nm_some h
      rw [em9] at hZ
      refine lv_aload_n hx0 hb d_Md_leaf_63 rfl (lv_at hl 0 rfl) ?_
      refine fg_Md_nodes hx0 hb hts hown hZ d_Md_leaf_64 ?_
      refine lv_iconst (v := (1 : Int32)) hx0 hb d_Md_leaf_67 (by decide) ?_
      refine lv_isub hx0 hb d_Md_leaf_68 ?_
      obtain rfl := Option.some.inj h
      exact z_iretT hx0 hb hr hZ hlocks hQ d_Md_leaf_69
    · replace h := (if_pos c4).symm.trans h
      refine lv_bipush (v := (-4 : Int32)) hx0 hb d_Md_leaf_30 (by decide) ?_
      obtain rfl := Option.some.inj h
      exact z_iretT hx0 hb hr hZ hlocks hQ d_Md_leaf_32
  · replace h := (if_pos c3).symm.trans h
    refine lv_bipush (v := (-2 : Int32)) hx0 hb d_Md_leaf_18 (by decide) ?_
    obtain rfl := Option.some.inj h
    exact z_iretT hx0 hb hr hZ hlocks hQ d_Md_leaf_20
abbrev rm_Md_isColumn : Room := ({ frames := 1, cells := 0, slots := 0, locals := 22 } : Room)
set_option maxHeartbeats 4000000 in
set_option maxRecDepth 100000 in
theorem c_Md_isColumn (l : Launch) (G : zG) (a1 : Int32) (M : Mem) (r : Int32) (h : p_Md_isColumn a1 M = some r) : MetZT l G y_Md_isColumn (Cond.code y_Md_isColumn b_Md_isColumn 2 (some .boolean) :: zws) rm_Md_isColumn [.ref (G.1 0), .int a1] M (some (.int r)) M := by
  unfold p_Md_isColumn at h
  refine z_ofWT (lv := [(0, .ref (G.1 0)), (1, .int a1)]) (by decide) (Nat.le_of_ble_eq_true rfl) rfl (fun p e R s m args below meth c Q ls F hl hZ => ?_)
  obtain ⟨hx0, hb, hml, hr, hts, hown, hlocks, rfl, hQ⟩ := F
  refine lv_iload_n hx0 hb d_Md_isColumn_0 rfl (lv_at hl 1 rfl) ?_
  refine lv_iconst (v := (0 : Int32)) hx0 hb d_Md_isColumn_1 (by decide) ?_
  refine lv_aload_n hx0 hb d_Md_isColumn_2 rfl (lv_at hl 0 rfl) ?_
  refine fg_Md_columns hx0 hb hts hown hZ d_Md_isColumn_3 ?_
  refine lv_iconst (v := (1 : Int32)) hx0 hb d_Md_isColumn_6 (by decide) ?_
  refine lv_isub hx0 hb d_Md_isColumn_7 ?_
  obtain ⟨q1, hc3, h⟩ := bnd_some h
  refine k_Md_Md_in [.int a1, .int (0 : Int32), .int ((M.1 0 1) - (1 : Int32))] hx0 hb hml hts hown (c_Md_in l G a1 (0 : Int32) ((M.1 0 1) - (1 : Int32)) M q1 hc3) hZ rfl rfl ⟨Nat.le_of_ble_eq_true rfl, Nat.le_of_ble_eq_true rfl⟩ hl.1 rfl (Nat.le_of_ble_eq_true rfl) d_Md_isColumn_8 (fun H locs hZ => ?_)
  obtain ⟨hz2, h⟩ := chk_some h
  obtain rfl := Option.some.inj h
  exact z_zretT hx0 hb hr hZ hlocks hQ (zbl_ok hz2) d_Md_isColumn_11
abbrev rm_Md_split : Room := ({ frames := 2, cells := 0, slots := 0, locals := 43 } : Room)
set_option maxHeartbeats 4000000 in
set_option maxRecDepth 100000 in
theorem c_Md_split (l : Launch) (G : zG) (a1 : Int32) (a2 : Int32) (a3 : Int32) (a4 : Int32) (M : Mem) (r : Int32 × Mem) (h : p_Md_split a1 a2 a3 a4 M = some r) : MetZT l G y_Md_split (Cond.code y_Md_split b_Md_split 5 (some .int) :: zws) rm_Md_split [.ref (G.1 0), .int a1, .int a2, .int a3, .int a4] M (some (.int r.1)) r.2 := by
  unfold p_Md_split at h
  refine z_ofWT (lv := [(0, .ref (G.1 0)), (1, .int a1), (2, .int a2), (3, .int a3), (4, .int a4)]) (by decide) (Nat.le_of_ble_eq_true rfl) rfl (fun p e R s m args below meth c Q ls F hl hZ => ?_)
  obtain ⟨hx0, hb, hml, hr, hts, hown, hlocks, rfl, hQ⟩ := F
  refine lv_aload_n hx0 hb d_Md_split_0 rfl (lv_at hl 0 rfl) ?_
  refine lv_iconst (v := (0 : Int32)) hx0 hb d_Md_split_1 (by decide) ?_
  refine fp_Md_code hx0 hb hts hown hZ d_Md_split_2 (fun H locs hZ => ?_)
  obtain ⟨m1, em1, h⟩ := nm_some h
  rw [em1] at hZ
  refine lv_aload_n hx0 hb d_Md_split_5 rfl (lv_at hl 0 rfl) ?_
  refine lv_iload_n hx0 hb d_Md_split_6 rfl (lv_at hl 1 rfl) ?_
  obtain ⟨q2, hc25, h⟩ := bnd_some h
  refine k_Md_Md_isColumn [.int a1] hx0 hb hml hts hown (c_Md_isColumn l G a1 m1 q2 hc25) hZ rfl rfl ⟨Nat.le_of_ble_eq_true rfl, Nat.le_of_ble_eq_true rfl⟩ hl.1 rfl (Nat.le_of_ble_eq_true rfl) d_Md_split_7 (fun H locs hZ => ?_)
  refine lv_if_eq (tgt := 42) hx0 hb d_Md_split_10 (by decide) (fun c3 => ?_) (fun c3 => ?_)
  · replace h := (if_pos c3).symm.trans h
    refine lv_iconst (v := (-1 : Int32)) hx0 hb d_Md_split_42 (by decide) ?_
    obtain rfl := Option.some.inj h
    exact z_iretT hx0 hb hr hZ hlocks hQ d_Md_split_43
  · replace h := (if_neg c3).symm.trans h
    refine lv_iload_n hx0 hb d_Md_split_13 rfl (lv_at hl 3 rfl) ?_
    refine lv_iconst (v := (0 : Int32)) hx0 hb d_Md_split_14 (by decide) ?_
    refine lv_aload_n hx0 hb d_Md_split_15 rfl (lv_at hl 0 rfl) ?_
    refine fg_Md_nodes hx0 hb hts hown hZ d_Md_split_16 ?_
    refine lv_iconst (v := (1 : Int32)) hx0 hb d_Md_split_19 (by decide) ?_
    refine lv_isub hx0 hb d_Md_split_20 ?_
    obtain ⟨q4, hc24, h⟩ := bnd_some h
    refine k_Md_Md_in [.int a3, .int (0 : Int32), .int ((m1.1 0 2) - (1 : Int32))] hx0 hb hml hts hown (c_Md_in l G a3 (0 : Int32) ((m1.1 0 2) - (1 : Int32)) m1 q4 hc24) hZ rfl rfl ⟨Nat.le_of_ble_eq_true rfl, Nat.le_of_ble_eq_true rfl⟩ hl.1 rfl (Nat.le_of_ble_eq_true rfl) d_Md_split_21 (fun H locs hZ => ?_)
    refine lv_if_eq (tgt := 42) hx0 hb d_Md_split_24 (by decide) (fun c5 => ?_) (fun c5 => ?_)
    · replace h := (if_pos c5).symm.trans h
      refine lv_iconst (v := (-1 : Int32)) hx0 hb d_Md_split_42 (by decide) ?_
      obtain rfl := Option.some.inj h
      exact z_iretT hx0 hb hr hZ hlocks hQ d_Md_split_43
    · replace h := (if_neg c5).symm.trans h
      refine lv_iload hx0 hb d_Md_split_27 (lv_at hl 4 rfl) ?_
      refine lv_iconst (v := (0 : Int32)) hx0 hb d_Md_split_29 (by decide) ?_
      refine lv_aload_n hx0 hb d_Md_split_30 rfl (lv_at hl 0 rfl) ?_
      refine fg_Md_nodes hx0 hb hts hown hZ d_Md_split_31 ?_
      refine lv_iconst (v := (1 : Int32)) hx0 hb d_Md_split_34 (by decide) ?_
      refine lv_isub hx0 hb d_Md_split_35 ?_
      obtain ⟨q6, hc23, h⟩ := bnd_some h
      refine k_Md_Md_in [.int a4, .int (0 : Int32), .int ((m1.1 0 2) - (1 : Int32))] hx0 hb hml hts hown (c_Md_in l G a4 (0 : Int32) ((m1.1 0 2) - (1 : Int32)) m1 q6 hc23) hZ rfl rfl ⟨Nat.le_of_ble_eq_true rfl, Nat.le_of_ble_eq_true rfl⟩ hl.1 rfl (Nat.le_of_ble_eq_true rfl) d_Md_split_36 (fun H locs hZ => ?_)
      refine lv_if_ne (tgt := 44) hx0 hb d_Md_split_39 (by decide) (fun c7 => ?_) (fun c7 => ?_)
      · replace h := (if_neg c7).symm.trans h
        refine lv_iload_n hx0 hb d_Md_split_44 rfl (lv_at hl 2 rfl) ?_
        refine lv_bipush (v := (-100 : Int32)) hx0 hb d_Md_split_45 (by decide) ?_
        refine lv_bipush (v := (100 : Int32)) hx0 hb d_Md_split_47 (by decide) ?_
        obtain ⟨q8, hc22, h⟩ := bnd_some h
        refine k_Md_Md_in [.int a2, .int (-100 : Int32), .int (100 : Int32)] hx0 hb hml hts hown (c_Md_in l G a2 (-100 : Int32) (100 : Int32) m1 q8 hc22) hZ rfl rfl ⟨Nat.le_of_ble_eq_true rfl, Nat.le_of_ble_eq_true rfl⟩ hl.1 rfl (Nat.le_of_ble_eq_true rfl) d_Md_split_49 (fun H locs hZ => ?_)
        refine lv_if_ne (tgt := 58) hx0 hb d_Md_split_52 (by decide) (fun c9 => ?_) (fun c9 => ?_)
        · replace h := (if_neg c9).symm.trans h
          refine lv_aload_n hx0 hb d_Md_split_58 rfl (lv_at hl 0 rfl) ?_
          refine fg_Md_nodes hx0 hb hts hown hZ d_Md_split_59 ?_
          refine lv_bipush (v := (30 : Int32)) hx0 hb d_Md_split_62 (by decide) ?_
          refine lv_icmp_ne (tgt := 70) hx0 hb d_Md_split_64 (by decide) (fun c10 => ?_) (fun c10 => ?_)
          · replace h := (if_neg c10).symm.trans h
            refine lv_aload_n hx0 hb d_Md_split_70 rfl (lv_at hl 0 rfl) ?_
            refine fg_Md_isLeaf hx0 hb hts hown hZ d_Md_split_71 ?_
            refine lv_aload_n hx0 hb d_Md_split_74 rfl (lv_at hl 0 rfl) ?_
            refine fg_Md_nodes hx0 hb hts hown hZ d_Md_split_75 ?_
            refine lv_iconst (v := (0 : Int32)) hx0 hb d_Md_split_78 (by decide) ?_
            obtain ⟨hi11, h⟩ := chk_some h
            refine z_bastoreT (k := 1) hx0 hb hZ hi11 d_Md_split_79 (fun H locs hZ => ?_)
            obtain ⟨m12, em12, h⟩ := nm_some h
            rw [em12] at hZ
            refine lv_aload_n hx0 hb d_Md_split_80 rfl (lv_at hl 0 rfl) ?_
            refine fg_Md_number hx0 hb hts hown hZ d_Md_split_81 ?_
            refine lv_aload_n hx0 hb d_Md_split_84 rfl (lv_at hl 0 rfl) ?_
            refine fg_Md_nodes hx0 hb hts hown hZ d_Md_split_85 ?_
            refine lv_iload_n hx0 hb d_Md_split_88 rfl (lv_at hl 2 rfl) ?_
            obtain ⟨hi13, h⟩ := chk_some h
            refine z_iastoreT (k := 2) hx0 hb hZ hi13 d_Md_split_89 (fun H locs hZ => ?_)
            obtain ⟨m14, em14, h⟩ := nm_some h
            rw [em14] at hZ
            refine lv_aload_n hx0 hb d_Md_split_90 rfl (lv_at hl 0 rfl) ?_
            refine fg_Md_splitOf hx0 hb hts hown hZ d_Md_split_91 ?_
            refine lv_aload_n hx0 hb d_Md_split_94 rfl (lv_at hl 0 rfl) ?_
            refine fg_Md_nodes hx0 hb hts hown hZ d_Md_split_95 ?_
            refine lv_iload_n hx0 hb d_Md_split_98 rfl (lv_at hl 1 rfl) ?_
            obtain ⟨hi15, h⟩ := chk_some h
            refine z_iastoreT (k := 3) hx0 hb hZ hi15 d_Md_split_99 (fun H locs hZ => ?_)
            obtain ⟨m16, em16, h⟩ := nm_some h
            rw [em16] at hZ
            refine lv_aload_n hx0 hb d_Md_split_100 rfl (lv_at hl 0 rfl) ?_
            refine fg_Md_low hx0 hb hts hown hZ d_Md_split_101 ?_
            refine lv_aload_n hx0 hb d_Md_split_104 rfl (lv_at hl 0 rfl) ?_
            refine fg_Md_nodes hx0 hb hts hown hZ d_Md_split_105 ?_
            refine lv_iload_n hx0 hb d_Md_split_108 rfl (lv_at hl 3 rfl) ?_
            obtain ⟨hi17, h⟩ := chk_some h
            refine z_iastoreT (k := 4) hx0 hb hZ hi17 d_Md_split_109 (fun H locs hZ => ?_)
            obtain ⟨m18, em18, h⟩ := nm_some h
            rw [em18] at hZ
            refine lv_aload_n hx0 hb d_Md_split_110 rfl (lv_at hl 0 rfl) ?_
            refine fg_Md_high hx0 hb hts hown hZ d_Md_split_111 ?_
            refine lv_aload_n hx0 hb d_Md_split_114 rfl (lv_at hl 0 rfl) ?_
            refine fg_Md_nodes hx0 hb hts hown hZ d_Md_split_115 ?_
            refine lv_iload hx0 hb d_Md_split_118 (lv_at hl 4 rfl) ?_
            obtain ⟨hi19, h⟩ := chk_some h
            refine z_iastoreT (k := 5) hx0 hb hZ hi19 d_Md_split_120 (fun H locs hZ => ?_)
            obtain ⟨m20, em20, h⟩ := nm_some h
            rw [em20] at hZ
            refine lv_aload_n hx0 hb d_Md_split_121 rfl (lv_at hl 0 rfl) ?_
            refine lv_dup hx0 hb d_Md_split_122 rfl ?_
            refine fg_Md_nodes hx0 hb hts hown hZ d_Md_split_123 ?_
            refine lv_iconst (v := (1 : Int32)) hx0 hb d_Md_split_126 (by decide) ?_
            refine lv_iadd hx0 hb d_Md_split_127 ?_
            refine fp_Md_nodes hx0 hb hts hown hZ d_Md_split_128 (fun H locs hZ => ?_)
            obtain ⟨m21, em21, h⟩ := nm_some h
            rw [em21] at hZ
            refine lv_aload_n hx0 hb d_Md_split_131 rfl (lv_at hl 0 rfl) ?_
            refine fg_Md_nodes hx0 hb hts hown hZ d_Md_split_132 ?_
            refine lv_iconst (v := (1 : Int32)) hx0 hb d_Md_split_135 (by decide) ?_
            refine lv_isub hx0 hb d_Md_split_136 ?_
            obtain rfl := Option.some.inj h
            exact z_iretT hx0 hb hr hZ hlocks hQ d_Md_split_137
          · replace h := (if_pos c10).symm.trans h
            refine lv_bipush (v := (-4 : Int32)) hx0 hb d_Md_split_67 (by decide) ?_
            obtain rfl := Option.some.inj h
            exact z_iretT hx0 hb hr hZ hlocks hQ d_Md_split_69
        · replace h := (if_pos c9).symm.trans h
          refine lv_bipush (v := (-2 : Int32)) hx0 hb d_Md_split_55 (by decide) ?_
          obtain rfl := Option.some.inj h
          exact z_iretT hx0 hb hr hZ hlocks hQ d_Md_split_57
      · replace h := (if_pos c7).symm.trans h
        refine lv_iconst (v := (-1 : Int32)) hx0 hb d_Md_split_42 (by decide) ?_
        obtain rfl := Option.some.inj h
        exact z_iretT hx0 hb hr hZ hlocks hQ d_Md_split_43
abbrev rm_Md_root : Room := ({ frames := 1, cells := 0, slots := 0, locals := 22 } : Room)
set_option maxHeartbeats 4000000 in
set_option maxRecDepth 100000 in
theorem c_Md_root (l : Launch) (G : zG) (a1 : Int32) (M : Mem) (r : Int32 × Mem) (h : p_Md_root a1 M = some r) : MetZT l G y_Md_root (Cond.code y_Md_root b_Md_root 2 (some .int) :: zws) rm_Md_root [.ref (G.1 0), .int a1] M (some (.int r.1)) r.2 := by
  unfold p_Md_root at h
  refine z_ofWT (lv := [(0, .ref (G.1 0)), (1, .int a1)]) (by decide) (Nat.le_of_ble_eq_true rfl) rfl (fun p e R s m args below meth c Q ls F hl hZ => ?_)
  obtain ⟨hx0, hb, hml, hr, hts, hown, hlocks, rfl, hQ⟩ := F
  refine lv_aload_n hx0 hb d_Md_root_0 rfl (lv_at hl 0 rfl) ?_
  refine lv_iconst (v := (0 : Int32)) hx0 hb d_Md_root_1 (by decide) ?_
  refine fp_Md_code hx0 hb hts hown hZ d_Md_root_2 (fun H locs hZ => ?_)
  obtain ⟨m1, em1, h⟩ := nm_some h
  rw [em1] at hZ
  refine lv_iload_n hx0 hb d_Md_root_5 rfl (lv_at hl 1 rfl) ?_
  refine lv_iconst (v := (0 : Int32)) hx0 hb d_Md_root_6 (by decide) ?_
  refine lv_aload_n hx0 hb d_Md_root_7 rfl (lv_at hl 0 rfl) ?_
  refine fg_Md_nodes hx0 hb hts hown hZ d_Md_root_8 ?_
  refine lv_iconst (v := (1 : Int32)) hx0 hb d_Md_root_11 (by decide) ?_
  refine lv_isub hx0 hb d_Md_root_12 ?_
  obtain ⟨q2, hc8, h⟩ := bnd_some h
  refine k_Md_Md_in [.int a1, .int (0 : Int32), .int ((m1.1 0 2) - (1 : Int32))] hx0 hb hml hts hown (c_Md_in l G a1 (0 : Int32) ((m1.1 0 2) - (1 : Int32)) m1 q2 hc8) hZ rfl rfl ⟨Nat.le_of_ble_eq_true rfl, Nat.le_of_ble_eq_true rfl⟩ hl.1 rfl (Nat.le_of_ble_eq_true rfl) d_Md_root_13 (fun H locs hZ => ?_)
  refine lv_if_ne (tgt := 21) hx0 hb d_Md_root_16 (by decide) (fun c3 => ?_) (fun c3 => ?_)
  · replace h := (if_neg c3).symm.trans h
    refine lv_aload_n hx0 hb d_Md_root_21 rfl (lv_at hl 0 rfl) ?_
    refine fg_Md_roots hx0 hb hts hown hZ d_Md_root_22 ?_
    refine lv_iconst (v := (4 : Int32)) hx0 hb d_Md_root_25 (by decide) ?_
    refine lv_icmp_ne (tgt := 32) hx0 hb d_Md_root_26 (by decide) (fun c4 => ?_) (fun c4 => ?_)
    · replace h := (if_neg c4).symm.trans h
      refine lv_aload_n hx0 hb d_Md_root_32 rfl (lv_at hl 0 rfl) ?_
      refine fg_Md_root hx0 hb hts hown hZ d_Md_root_33 ?_
      refine lv_aload_n hx0 hb d_Md_root_36 rfl (lv_at hl 0 rfl) ?_
      refine fg_Md_roots hx0 hb hts hown hZ d_Md_root_37 ?_
      refine lv_iload_n hx0 hb d_Md_root_40 rfl (lv_at hl 1 rfl) ?_
      obtain ⟨hi5, h⟩ := chk_some h
      refine z_iastoreT (k := 6) hx0 hb hZ hi5 d_Md_root_41 (fun H locs hZ => ?_)
      obtain ⟨m6, em6, h⟩ := nm_some h
      rw [em6] at hZ
      refine lv_aload_n hx0 hb d_Md_root_42 rfl (lv_at hl 0 rfl) ?_
      refine lv_dup hx0 hb d_Md_root_43 rfl ?_
      refine fg_Md_roots hx0 hb hts hown hZ d_Md_root_44 ?_
      refine lv_iconst (v := (1 : Int32)) hx0 hb d_Md_root_47 (by decide) ?_
      refine lv_iadd hx0 hb d_Md_root_48 ?_
      refine fp_Md_roots hx0 hb hts hown hZ d_Md_root_49 (fun H locs hZ => ?_)
      obtain ⟨m7, em7, h⟩ := nm_some h
      rw [em7] at hZ
      refine lv_aload_n hx0 hb d_Md_root_52 rfl (lv_at hl 0 rfl) ?_
      refine fg_Md_roots hx0 hb hts hown hZ d_Md_root_53 ?_
      obtain rfl := Option.some.inj h
      exact z_iretT hx0 hb hr hZ hlocks hQ d_Md_root_56
    · replace h := (if_pos c4).symm.trans h
      refine lv_bipush (v := (-4 : Int32)) hx0 hb d_Md_root_29 (by decide) ?_
      obtain rfl := Option.some.inj h
      exact z_iretT hx0 hb hr hZ hlocks hQ d_Md_root_31
  · replace h := (if_pos c3).symm.trans h
    refine lv_iconst (v := (-1 : Int32)) hx0 hb d_Md_root_19 (by decide) ?_
    obtain rfl := Option.some.inj h
    exact z_iretT hx0 hb hr hZ hlocks hQ d_Md_root_20
abbrev rm_Md_weight : Room := ({ frames := 2, cells := 0, slots := 0, locals := 43 } : Room)
set_option maxHeartbeats 4000000 in
set_option maxRecDepth 100000 in
theorem c_Md_weight (l : Launch) (G : zG) (a1 : Int32) (a2 : Int32) (M : Mem) (r : Int32 × Mem) (h : p_Md_weight a1 a2 M = some r) : MetZT l G y_Md_weight (Cond.code y_Md_weight b_Md_weight 3 (some .int) :: zws) rm_Md_weight [.ref (G.1 0), .int a1, .int a2] M (some (.int r.1)) r.2 := by
  unfold p_Md_weight at h
  refine z_ofWT (lv := [(0, .ref (G.1 0)), (1, .int a1), (2, .int a2)]) (by decide) (Nat.le_of_ble_eq_true rfl) rfl (fun p e R s m args below meth c Q ls F hl hZ => ?_)
  obtain ⟨hx0, hb, hml, hr, hts, hown, hlocks, rfl, hQ⟩ := F
  refine lv_aload_n hx0 hb d_Md_weight_0 rfl (lv_at hl 0 rfl) ?_
  refine lv_iconst (v := (0 : Int32)) hx0 hb d_Md_weight_1 (by decide) ?_
  refine fp_Md_code hx0 hb hts hown hZ d_Md_weight_2 (fun H locs hZ => ?_)
  obtain ⟨m1, em1, h⟩ := nm_some h
  rw [em1] at hZ
  refine lv_aload_n hx0 hb d_Md_weight_5 rfl (lv_at hl 0 rfl) ?_
  refine lv_iload_n hx0 hb d_Md_weight_6 rfl (lv_at hl 1 rfl) ?_
  obtain ⟨q2, hc9, h⟩ := bnd_some h
  refine k_Md_Md_isColumn [.int a1] hx0 hb hml hts hown (c_Md_isColumn l G a1 m1 q2 hc9) hZ rfl rfl ⟨Nat.le_of_ble_eq_true rfl, Nat.le_of_ble_eq_true rfl⟩ hl.1 rfl (Nat.le_of_ble_eq_true rfl) d_Md_weight_7 (fun H locs hZ => ?_)
  refine lv_if_ne (tgt := 15) hx0 hb d_Md_weight_10 (by decide) (fun c3 => ?_) (fun c3 => ?_)
  · replace h := (if_neg c3).symm.trans h
    refine lv_iload_n hx0 hb d_Md_weight_15 rfl (lv_at hl 2 rfl) ?_
    refine lv_bipush (v := (-20 : Int32)) hx0 hb d_Md_weight_16 (by decide) ?_
    refine lv_bipush (v := (20 : Int32)) hx0 hb d_Md_weight_18 (by decide) ?_
    obtain ⟨q4, hc8, h⟩ := bnd_some h
    refine k_Md_Md_in [.int a2, .int (-20 : Int32), .int (20 : Int32)] hx0 hb hml hts hown (c_Md_in l G a2 (-20 : Int32) (20 : Int32) m1 q4 hc8) hZ rfl rfl ⟨Nat.le_of_ble_eq_true rfl, Nat.le_of_ble_eq_true rfl⟩ hl.1 rfl (Nat.le_of_ble_eq_true rfl) d_Md_weight_20 (fun H locs hZ => ?_)
    refine lv_if_ne (tgt := 29) hx0 hb d_Md_weight_23 (by decide) (fun c5 => ?_) (fun c5 => ?_)
    · replace h := (if_neg c5).symm.trans h
      refine lv_aload_n hx0 hb d_Md_weight_29 rfl (lv_at hl 0 rfl) ?_
      refine fg_Md_weights hx0 hb hts hown hZ d_Md_weight_30 ?_
      refine lv_iload_n hx0 hb d_Md_weight_33 rfl (lv_at hl 1 rfl) ?_
      refine lv_iload_n hx0 hb d_Md_weight_34 rfl (lv_at hl 2 rfl) ?_
      obtain ⟨hi6, h⟩ := chk_some h
      refine z_iastoreT (k := 7) hx0 hb hZ hi6 d_Md_weight_35 (fun H locs hZ => ?_)
      obtain ⟨m7, em7, h⟩ := nm_some h
      rw [em7] at hZ
      refine lv_iconst (v := (1 : Int32)) hx0 hb d_Md_weight_36 (by decide) ?_
      obtain rfl := Option.some.inj h
      exact z_iretT hx0 hb hr hZ hlocks hQ d_Md_weight_37
    · replace h := (if_pos c5).symm.trans h
      refine lv_bipush (v := (-2 : Int32)) hx0 hb d_Md_weight_26 (by decide) ?_
      obtain rfl := Option.some.inj h
      exact z_iretT hx0 hb hr hZ hlocks hQ d_Md_weight_28
  · replace h := (if_pos c3).symm.trans h
    refine lv_iconst (v := (-1 : Int32)) hx0 hb d_Md_weight_13 (by decide) ?_
    obtain rfl := Option.some.inj h
    exact z_iretT hx0 hb hr hZ hlocks hQ d_Md_weight_14
abbrev rm_Md_background : Room := ({ frames := 0, cells := 0, slots := 0, locals := 0 } : Room)
set_option maxHeartbeats 4000000 in
set_option maxRecDepth 100000 in
theorem c_Md_background (l : Launch) (G : zG)  (M : Mem) (r : Int32 × Mem) (h : p_Md_background  M = some r) : MetZT l G y_Md_background (Cond.code y_Md_background b_Md_background 2 (some .int) :: zws) rm_Md_background [.ref (G.1 0)] M (some (.int r.1)) r.2 := by
  unfold p_Md_background at h
  refine z_ofWT (lv := [(0, .ref (G.1 0))]) (by decide) (Nat.le_of_ble_eq_true rfl) rfl (fun p e R s m args below meth c Q ls F hl hZ => ?_)
  obtain ⟨hx0, hb, hml, hr, hts, hown, hlocks, rfl, hQ⟩ := F
  refine lv_aload_n hx0 hb d_Md_background_0 rfl (lv_at hl 0 rfl) ?_
  refine lv_iconst (v := (0 : Int32)) hx0 hb d_Md_background_1 (by decide) ?_
  refine fp_Md_code hx0 hb hts hown hZ d_Md_background_2 (fun H locs hZ => ?_)
  obtain ⟨m1, em1, h⟩ := nm_some h
  rw [em1] at hZ
  refine lv_aload_n hx0 hb d_Md_background_5 rfl (lv_at hl 0 rfl) ?_
  refine fg_Md_rows hx0 hb hts hown hZ d_Md_background_6 ?_
  refine lv_iconst (v := (5 : Int32)) hx0 hb d_Md_background_9 (by decide) ?_
  refine lv_icmp_ne (tgt := 16) hx0 hb d_Md_background_10 (by decide) (fun c2 => ?_) (fun c2 => ?_)
  · replace h := (if_neg c2).symm.trans h
    refine lv_aload_n hx0 hb d_Md_background_16 rfl (lv_at hl 0 rfl) ?_
    refine lv_dup hx0 hb d_Md_background_17 rfl ?_
    refine fg_Md_rows hx0 hb hts hown hZ d_Md_background_18 ?_
    refine lv_iconst (v := (1 : Int32)) hx0 hb d_Md_background_21 (by decide) ?_
    refine lv_iadd hx0 hb d_Md_background_22 ?_
    refine fp_Md_rows hx0 hb hts hown hZ d_Md_background_23 (fun H locs hZ => ?_)
    obtain ⟨m3, em3, h⟩ := nm_some h
    rw [em3] at hZ
    refine lv_iconst (v := (0 : Int32)) hx0 hb d_Md_background_26 (by decide) ?_
    refine lv_istore_n (lv' := [(1, .int (0 : Int32)), (0, .ref (G.1 0))]) hx0 hb d_Md_background_27 rfl hl (by decide) rfl (fun ls hl => ?_)
    obtain ⟨q4, hq5, h⟩ := bnd_some h
    refine W_itr (At := fun (s0 : Int32 × Mem) => ∀ (H : Heap) (locs : List Loc) (ls : Array Slot), ZZT G s s0.2 H locs → lv_has ls 2 [(1, .int s0.1), (0, .ref (G.1 0))] → W p l e rm_Md_background s m args below meth c H locs 0 0 Q (F0 m 28 ls [])) (Ex := fun (q0 : Int32 × Mem) => ∀ (H : Heap) (locs : List Loc) (ls : Array Slot), ZZT G s q0.2 H locs → lv_has ls 2 [(0, .ref (G.1 0))] → W p l e rm_Md_background s m args below meth c H locs 0 0 Q (F0 m 55 ls [])) (fun s0 x h hx => ?_) _ _ q4 hq5 (fun H locs ls hZ hl => ?_) _ _ _ hZ (lv_sub hl [0, 1] rfl)
    · obtain ⟨x1_28, M_28⟩ := s0
      replace h : p_Md_background_L28 x1_28 M_28 = some x := h
      unfold p_Md_background_L28 at h
      intro H locs ls hZ hl
      replace hZ : ZZT G s M_28 H locs := hZ
      replace hl : lv_has ls 2 [(1, .int x1_28), (0, .ref (G.1 0))] := hl
      refine lv_iload_n hx0 hb d_Md_background_28 rfl (lv_at hl 0 rfl) ?_
      refine lv_bipush (v := (6 : Int32)) hx0 hb d_Md_background_29 (by decide) ?_
      refine lv_icmp_ge (tgt := 55) hx0 hb d_Md_background_31 (by decide) (fun c28_1 => ?_) (fun c28_1 => ?_)
      · replace h := (if_pos c28_1).symm.trans h
        obtain rfl := Option.some.inj h
        exact hx _ _ _ hZ (lv_sub hl [1] rfl)
      · replace h := (if_neg c28_1).symm.trans h
        refine lv_aload_n hx0 hb d_Md_background_34 rfl (lv_at hl 1 rfl) ?_
        refine fg_Md_items hx0 hb hts hown hZ d_Md_background_35 ?_
        refine lv_bipush (v := (6 : Int32)) hx0 hb d_Md_background_38 (by decide) ?_
        refine lv_aload_n hx0 hb d_Md_background_40 rfl (lv_at hl 1 rfl) ?_
        refine fg_Md_rows hx0 hb hts hown hZ d_Md_background_41 ?_
        refine lv_imul hx0 hb d_Md_background_44 ?_
        refine lv_iload_n hx0 hb d_Md_background_45 rfl (lv_at hl 0 rfl) ?_
        refine lv_iadd hx0 hb d_Md_background_46 ?_
        refine lv_iconst (v := (0 : Int32)) hx0 hb d_Md_background_47 (by decide) ?_
        obtain ⟨hi28_2, h⟩ := chk_some h
        refine z_iastoreT (k := 10) hx0 hb hZ hi28_2 d_Md_background_48 (fun H locs hZ => ?_)
        obtain ⟨m28_3, em28_3, h⟩ := nm_some h
        rw [em28_3] at hZ
        refine lv_iinc (v := (x1_28 + (1 : Int32))) (lv' := [(1, .int (x1_28 + (1 : Int32))), (0, .ref (G.1 0))]) hx0 hb d_Md_background_49 hl (k := 0) rfl rfl (by decide) rfl (fun ls hl => ?_)
        refine lv_goto (tgt := 28) hx0 hb d_Md_background_52 (by decide) ?_
        obtain rfl := Option.some.inj h
        exact hx _ _ _ hZ (lv_sub hl [0, 1] rfl)
    · replace hZ : ZZT G s q4.2 H locs := hZ
      replace hl : lv_has ls 2 [(0, .ref (G.1 0))] := hl
      refine lv_aload_n hx0 hb d_Md_background_55 rfl (lv_at hl 0 rfl) ?_
      refine fg_Md_rows hx0 hb hts hown hZ d_Md_background_56 ?_
      refine lv_iconst (v := (1 : Int32)) hx0 hb d_Md_background_59 (by decide) ?_
      refine lv_isub hx0 hb d_Md_background_60 ?_
      obtain rfl := Option.some.inj h
      exact z_iretT hx0 hb hr hZ hlocks hQ d_Md_background_61
  · replace h := (if_pos c2).symm.trans h
    refine lv_bipush (v := (-4 : Int32)) hx0 hb d_Md_background_13 (by decide) ?_
    obtain rfl := Option.some.inj h
    exact z_iretT hx0 hb hr hZ hlocks hQ d_Md_background_15
abbrev rm_Md_item : Room := ({ frames := 2, cells := 0, slots := 0, locals := 43 } : Room)
set_option maxHeartbeats 4000000 in
set_option maxRecDepth 100000 in
theorem c_Md_item (l : Launch) (G : zG) (a1 : Int32) (a2 : Int32) (a3 : Int32) (M : Mem) (r : Int32 × Mem) (h : p_Md_item a1 a2 a3 M = some r) : MetZT l G y_Md_item (Cond.code y_Md_item b_Md_item 4 (some .int) :: zws) rm_Md_item [.ref (G.1 0), .int a1, .int a2, .int a3] M (some (.int r.1)) r.2 := by
  unfold p_Md_item at h
  refine z_ofWT (lv := [(0, .ref (G.1 0)), (1, .int a1), (2, .int a2), (3, .int a3)]) (by decide) (Nat.le_of_ble_eq_true rfl) rfl (fun p e R s m args below meth c Q ls F hl hZ => ?_)
  obtain ⟨hx0, hb, hml, hr, hts, hown, hlocks, rfl, hQ⟩ := F
  refine lv_aload_n hx0 hb d_Md_item_0 rfl (lv_at hl 0 rfl) ?_
  refine lv_iconst (v := (0 : Int32)) hx0 hb d_Md_item_1 (by decide) ?_
  refine fp_Md_code hx0 hb hts hown hZ d_Md_item_2 (fun H locs hZ => ?_)
  obtain ⟨m1, em1, h⟩ := nm_some h
  rw [em1] at hZ
  refine lv_iload_n hx0 hb d_Md_item_5 rfl (lv_at hl 1 rfl) ?_
  refine lv_iconst (v := (-1 : Int32)) hx0 hb d_Md_item_6 (by decide) ?_
  refine lv_aload_n hx0 hb d_Md_item_7 rfl (lv_at hl 0 rfl) ?_
  refine fg_Md_rows hx0 hb hts hown hZ d_Md_item_8 ?_
  refine lv_iconst (v := (1 : Int32)) hx0 hb d_Md_item_11 (by decide) ?_
  refine lv_isub hx0 hb d_Md_item_12 ?_
  obtain ⟨q2, hc12, h⟩ := bnd_some h
  refine k_Md_Md_in [.int a1, .int (-1 : Int32), .int ((m1.1 0 13) - (1 : Int32))] hx0 hb hml hts hown (c_Md_in l G a1 (-1 : Int32) ((m1.1 0 13) - (1 : Int32)) m1 q2 hc12) hZ rfl rfl ⟨Nat.le_of_ble_eq_true rfl, Nat.le_of_ble_eq_true rfl⟩ hl.1 rfl (Nat.le_of_ble_eq_true rfl) d_Md_item_13 (fun H locs hZ => ?_)
  refine lv_if_eq (tgt := 27) hx0 hb d_Md_item_16 (by decide) (fun c3 => ?_) (fun c3 => ?_)
  · replace h := (if_pos c3).symm.trans h
    refine lv_iconst (v := (-1 : Int32)) hx0 hb d_Md_item_27 (by decide) ?_
    obtain rfl := Option.some.inj h
    exact z_iretT hx0 hb hr hZ hlocks hQ d_Md_item_28
  · replace h := (if_neg c3).symm.trans h
    refine lv_aload_n hx0 hb d_Md_item_19 rfl (lv_at hl 0 rfl) ?_
    refine lv_iload_n hx0 hb d_Md_item_20 rfl (lv_at hl 2 rfl) ?_
    obtain ⟨q4, hc11, h⟩ := bnd_some h
    refine k_Md_Md_isColumn [.int a2] hx0 hb hml hts hown (c_Md_isColumn l G a2 m1 q4 hc11) hZ rfl rfl ⟨Nat.le_of_ble_eq_true rfl, Nat.le_of_ble_eq_true rfl⟩ hl.1 rfl (Nat.le_of_ble_eq_true rfl) d_Md_item_21 (fun H locs hZ => ?_)
    refine lv_if_ne (tgt := 29) hx0 hb d_Md_item_24 (by decide) (fun c5 => ?_) (fun c5 => ?_)
    · replace h := (if_neg c5).symm.trans h
      refine lv_iload_n hx0 hb d_Md_item_29 rfl (lv_at hl 3 rfl) ?_
      refine lv_bipush (v := (-100 : Int32)) hx0 hb d_Md_item_30 (by decide) ?_
      refine lv_bipush (v := (100 : Int32)) hx0 hb d_Md_item_32 (by decide) ?_
      obtain ⟨q6, hc10, h⟩ := bnd_some h
      refine k_Md_Md_in [.int a3, .int (-100 : Int32), .int (100 : Int32)] hx0 hb hml hts hown (c_Md_in l G a3 (-100 : Int32) (100 : Int32) m1 q6 hc10) hZ rfl rfl ⟨Nat.le_of_ble_eq_true rfl, Nat.le_of_ble_eq_true rfl⟩ hl.1 rfl (Nat.le_of_ble_eq_true rfl) d_Md_item_34 (fun H locs hZ => ?_)
      refine lv_if_ne (tgt := 43) hx0 hb d_Md_item_37 (by decide) (fun c7 => ?_) (fun c7 => ?_)
      · replace h := (if_neg c7).symm.trans h
        refine lv_aload_n hx0 hb d_Md_item_43 rfl (lv_at hl 0 rfl) ?_
        refine fg_Md_items hx0 hb hts hown hZ d_Md_item_44 ?_
        refine lv_bipush (v := (6 : Int32)) hx0 hb d_Md_item_47 (by decide) ?_
        refine lv_iload_n hx0 hb d_Md_item_49 rfl (lv_at hl 1 rfl) ?_
        refine lv_iconst (v := (1 : Int32)) hx0 hb d_Md_item_50 (by decide) ?_
        refine lv_iadd hx0 hb d_Md_item_51 ?_
        refine lv_imul hx0 hb d_Md_item_52 ?_
        refine lv_iload_n hx0 hb d_Md_item_53 rfl (lv_at hl 2 rfl) ?_
        refine lv_iadd hx0 hb d_Md_item_54 ?_
        refine lv_iload_n hx0 hb d_Md_item_55 rfl (lv_at hl 3 rfl) ?_
        obtain ⟨hi8, h⟩ := chk_some h
        refine z_iastoreT (k := 10) hx0 hb hZ hi8 d_Md_item_56 (fun H locs hZ => ?_)
        obtain ⟨m9, em9, h⟩ := nm_some h
        rw [em9] at hZ
        refine lv_iconst (v := (1 : Int32)) hx0 hb d_Md_item_57 (by decide) ?_
        obtain rfl := Option.some.inj h
        exact z_iretT hx0 hb hr hZ hlocks hQ d_Md_item_58
      · replace h := (if_pos c7).symm.trans h
        refine lv_bipush (v := (-2 : Int32)) hx0 hb d_Md_item_40 (by decide) ?_
        obtain rfl := Option.some.inj h
        exact z_iretT hx0 hb hr hZ hlocks hQ d_Md_item_42
    · replace h := (if_pos c5).symm.trans h
      refine lv_iconst (v := (-1 : Int32)) hx0 hb d_Md_item_27 (by decide) ?_
      obtain rfl := Option.some.inj h
      exact z_iretT hx0 hb hr hZ hlocks hQ d_Md_item_28
abbrev rm_Md_group : Room := ({ frames := 2, cells := 0, slots := 0, locals := 43 } : Room)
set_option maxHeartbeats 4000000 in
set_option maxRecDepth 100000 in
theorem c_Md_group (l : Launch) (G : zG) (a1 : Int32) (a2 : Int32) (M : Mem) (r : Int32 × Mem) (h : p_Md_group a1 a2 M = some r) : MetZT l G y_Md_group (Cond.code y_Md_group b_Md_group 4 (some .int) :: zws) rm_Md_group [.ref (G.1 0), .int a1, .int a2] M (some (.int r.1)) r.2 := by
  unfold p_Md_group at h
  refine z_ofWT (lv := [(0, .ref (G.1 0)), (1, .int a1), (2, .int a2)]) (by decide) (Nat.le_of_ble_eq_true rfl) rfl (fun p e R s m args below meth c Q ls F hl hZ => ?_)
  obtain ⟨hx0, hb, hml, hr, hts, hown, hlocks, rfl, hQ⟩ := F
  refine lv_aload_n hx0 hb d_Md_group_0 rfl (lv_at hl 0 rfl) ?_
  refine lv_iconst (v := (0 : Int32)) hx0 hb d_Md_group_1 (by decide) ?_
  refine fp_Md_code hx0 hb hts hown hZ d_Md_group_2 (fun H locs hZ => ?_)
  obtain ⟨m1, em1, h⟩ := nm_some h
  rw [em1] at hZ
  refine lv_aload_n hx0 hb d_Md_group_5 rfl (lv_at hl 0 rfl) ?_
  refine lv_iload_n hx0 hb d_Md_group_6 rfl (lv_at hl 1 rfl) ?_
  obtain ⟨q2, hc10, h⟩ := bnd_some h
  refine k_Md_Md_isColumn [.int a1] hx0 hb hml hts hown (c_Md_isColumn l G a1 m1 q2 hc10) hZ rfl rfl ⟨Nat.le_of_ble_eq_true rfl, Nat.le_of_ble_eq_true rfl⟩ hl.1 rfl (Nat.le_of_ble_eq_true rfl) d_Md_group_7 (fun H locs hZ => ?_)
  refine lv_if_ne (tgt := 15) hx0 hb d_Md_group_10 (by decide) (fun c3 => ?_) (fun c3 => ?_)
  · replace h := (if_neg c3).symm.trans h
    refine lv_iload_n hx0 hb d_Md_group_15 rfl (lv_at hl 2 rfl) ?_
    refine lv_iconst (v := (0 : Int32)) hx0 hb d_Md_group_16 (by decide) ?_
    refine lv_aload_n hx0 hb d_Md_group_17 rfl (lv_at hl 0 rfl) ?_
    refine fg_Md_columns hx0 hb hts hown hZ d_Md_group_18 ?_
    refine lv_iconst (v := (1 : Int32)) hx0 hb d_Md_group_21 (by decide) ?_
    refine lv_isub hx0 hb d_Md_group_22 ?_
    obtain ⟨q4, hc9, h⟩ := bnd_some h
    refine k_Md_Md_in [.int a2, .int (0 : Int32), .int ((m1.1 0 1) - (1 : Int32))] hx0 hb hml hts hown (c_Md_in l G a2 (0 : Int32) ((m1.1 0 1) - (1 : Int32)) m1 q4 hc9) hZ rfl rfl ⟨Nat.le_of_ble_eq_true rfl, Nat.le_of_ble_eq_true rfl⟩ hl.1 rfl (Nat.le_of_ble_eq_true rfl) d_Md_group_23 (fun H locs hZ => ?_)
    refine lv_if_ne (tgt := 32) hx0 hb d_Md_group_26 (by decide) (fun c5 => ?_) (fun c5 => ?_)
    · replace h := (if_neg c5).symm.trans h
      refine lv_aload_n hx0 hb d_Md_group_32 rfl (lv_at hl 0 rfl) ?_
      refine fg_Md_groups hx0 hb hts hown hZ d_Md_group_33 ?_
      refine lv_iload_n hx0 hb d_Md_group_36 rfl (lv_at hl 1 rfl) ?_
      obtain ⟨hi6, h⟩ := chk_some h
      refine z_ialoadT (k := 8) hx0 hb hZ hi6 d_Md_group_37 ?_
      refine lv_istore_n (lv' := [(3, .int (m1.1 8 (Int32.toNatClampNeg a1))), (0, .ref (G.1 0)), (1, .int a1), (2, .int a2)]) hx0 hb d_Md_group_38 rfl hl (by decide) rfl (fun ls hl => ?_)
      refine lv_aload_n hx0 hb d_Md_group_39 rfl (lv_at hl 1 rfl) ?_
      refine fg_Md_groups hx0 hb hts hown hZ d_Md_group_40 ?_
      refine lv_iload_n hx0 hb d_Md_group_43 rfl (lv_at hl 2 rfl) ?_
      refine lv_iload_n hx0 hb d_Md_group_44 rfl (lv_at hl 3 rfl) ?_
      obtain ⟨hi7, h⟩ := chk_some h
      refine z_iastoreT (k := 8) hx0 hb hZ hi7 d_Md_group_45 (fun H locs hZ => ?_)
      obtain ⟨m8, em8, h⟩ := nm_some h
      rw [em8] at hZ
      refine lv_iload_n hx0 hb d_Md_group_46 rfl (lv_at hl 0 rfl) ?_
      obtain rfl := Option.some.inj h
      exact z_iretT hx0 hb hr hZ hlocks hQ d_Md_group_47
    · replace h := (if_pos c5).symm.trans h
      refine lv_bipush (v := (-2 : Int32)) hx0 hb d_Md_group_29 (by decide) ?_
      obtain rfl := Option.some.inj h
      exact z_iretT hx0 hb hr hZ hlocks hQ d_Md_group_31
  · replace h := (if_pos c3).symm.trans h
    refine lv_iconst (v := (-1 : Int32)) hx0 hb d_Md_group_13 (by decide) ?_
    obtain rfl := Option.some.inj h
    exact z_iretT hx0 hb hr hZ hlocks hQ d_Md_group_14
abbrev rm_Md_take : Room := ({ frames := 0, cells := 0, slots := 0, locals := 0 } : Room)
set_option maxHeartbeats 4000000 in
set_option maxRecDepth 100000 in
theorem c_Md_take (l : Launch) (G : zG) (a1 : Int32) (M : Mem) (r : Mem) (h : p_Md_take a1 M = some r) : MetZT l G y_Md_take (Cond.code y_Md_take b_Md_take 3 none :: zws) rm_Md_take [.ref (G.1 0), .int a1] M none r := by
  unfold p_Md_take at h
  refine z_ofWT (lv := [(0, .ref (G.1 0)), (1, .int a1)]) (by decide) (Nat.le_of_ble_eq_true rfl) rfl (fun p e R s m args below meth c Q ls F hl hZ => ?_)
  obtain ⟨hx0, hb, hml, hr, hts, hown, hlocks, rfl, hQ⟩ := F
  refine lv_iconst (v := (0 : Int32)) hx0 hb d_Md_take_0 (by decide) ?_
  refine lv_istore_n (lv' := [(2, .int (0 : Int32)), (0, .ref (G.1 0)), (1, .int a1)]) hx0 hb d_Md_take_1 rfl hl (by decide) rfl (fun ls hl => ?_)
  obtain ⟨q1, hq2, h⟩ := bnd_some h
  refine W_itr (At := fun (s0 : Int32 × Mem) => ∀ (H : Heap) (locs : List Loc) (ls : Array Slot), ZZT G s s0.2 H locs → lv_has ls 3 [(2, .int s0.1), (0, .ref (G.1 0)), (1, .int a1)] → W p l e rm_Md_take s m args below meth c H locs 0 0 Q (F0 m 2 ls [])) (Ex := fun (q0 : Int32 × Mem) => ∀ (H : Heap) (locs : List Loc) (ls : Array Slot), ZZT G s q0.2 H locs → lv_has ls 3 [] → W p l e rm_Md_take s m args below meth c H locs 0 0 Q (F0 m 33 ls [])) (fun s0 x h hx => ?_) _ _ q1 hq2 (fun H locs ls hZ hl => ?_) _ _ _ hZ (lv_sub hl [0, 1, 2] rfl)
  · obtain ⟨x2_2, M_2⟩ := s0
    replace h : p_Md_take_L2 a1 x2_2 M_2 = some x := h
    unfold p_Md_take_L2 at h
    intro H locs ls hZ hl
    replace hZ : ZZT G s M_2 H locs := hZ
    replace hl : lv_has ls 3 [(2, .int x2_2), (0, .ref (G.1 0)), (1, .int a1)] := hl
    refine lv_iload_n hx0 hb d_Md_take_2 rfl (lv_at hl 0 rfl) ?_
    refine lv_aload_n hx0 hb d_Md_take_3 rfl (lv_at hl 1 rfl) ?_
    refine fg_Md_columns hx0 hb hts hown hZ d_Md_take_4 ?_
    refine lv_icmp_ge (tgt := 33) hx0 hb d_Md_take_7 (by decide) (fun c2_1 => ?_) (fun c2_1 => ?_)
    · replace h := (if_pos c2_1).symm.trans h
      obtain rfl := Option.some.inj h
      exact hx _ _ _ hZ (lv_sub hl [] rfl)
    · replace h := (if_neg c2_1).symm.trans h
      refine lv_aload_n hx0 hb d_Md_take_10 rfl (lv_at hl 1 rfl) ?_
      refine fg_Md_now hx0 hb hts hown hZ d_Md_take_11 ?_
      refine lv_iload_n hx0 hb d_Md_take_14 rfl (lv_at hl 0 rfl) ?_
      refine lv_aload_n hx0 hb d_Md_take_15 rfl (lv_at hl 1 rfl) ?_
      refine fg_Md_items hx0 hb hts hown hZ d_Md_take_16 ?_
      refine lv_bipush (v := (6 : Int32)) hx0 hb d_Md_take_19 (by decide) ?_
      refine lv_iload_n hx0 hb d_Md_take_21 rfl (lv_at hl 2 rfl) ?_
      refine lv_imul hx0 hb d_Md_take_22 ?_
      refine lv_iload_n hx0 hb d_Md_take_23 rfl (lv_at hl 0 rfl) ?_
      refine lv_iadd hx0 hb d_Md_take_24 ?_
      obtain ⟨hi2_2, h⟩ := chk_some h
      refine z_ialoadT (k := 10) hx0 hb hZ hi2_2 d_Md_take_25 ?_
      obtain ⟨hi2_3, h⟩ := chk_some h
      refine z_iastoreT (k := 11) hx0 hb hZ hi2_3 d_Md_take_26 (fun H locs hZ => ?_)
      obtain ⟨m2_4, em2_4, h⟩ := nm_some h
      rw [em2_4] at hZ
      refine lv_iinc (v := (x2_2 + (1 : Int32))) (lv' := [(2, .int (x2_2 + (1 : Int32))), (0, .ref (G.1 0)), (1, .int a1)]) hx0 hb d_Md_take_27 hl (k := 0) rfl rfl (by decide) rfl (fun ls hl => ?_)
      refine lv_goto (tgt := 2) hx0 hb d_Md_take_30 (by decide) ?_
      obtain rfl := Option.some.inj h
      exact hx _ _ _ hZ (lv_sub hl [0, 1, 2] rfl)
  · replace hZ : ZZT G s q1.2 H locs := hZ
    replace hl : lv_has ls 3 [] := hl
    obtain rfl := Option.some.inj h
    exact z_vretT hx0 hb hr hZ hlocks hQ d_Md_take_33
abbrev rm_Md_answerNow : Room := ({ frames := 0, cells := 0, slots := 0, locals := 0 } : Room)
set_option maxHeartbeats 4000000 in
set_option maxRecDepth 100000 in
theorem c_Md_answerNow (l : Launch) (G : zG)  (M : Mem) (r : Int64) (h : p_Md_answerNow  M = some r) : MetZT l G y_Md_answerNow (Cond.code y_Md_answerNow b_Md_answerNow 5 (some .long) :: zws) rm_Md_answerNow [.ref (G.1 0)] M (some (.long r)) M := by
  unfold p_Md_answerNow at h
  refine z_ofWT (lv := [(0, .ref (G.1 0))]) (by decide) (Nat.le_of_ble_eq_true rfl) rfl (fun p e R s m args below meth c Q ls F hl hZ => ?_)
  obtain ⟨hx0, hb, hml, hr, hts, hown, hlocks, rfl, hQ⟩ := F
  refine lv_lconst (v := (0 : Int64)) hx0 hb d_Md_answerNow_0 (by decide) ?_
  refine lv_lstore_n (lv' := [(1, .long (0 : Int64)), (0, .ref (G.1 0))]) hx0 hb d_Md_answerNow_1 rfl hl (by decide) rfl (fun ls hl => ?_)
  refine lv_iconst (v := (0 : Int32)) hx0 hb d_Md_answerNow_2 (by decide) ?_
  refine lv_istore_n (lv' := [(3, .int (0 : Int32)), (1, .long (0 : Int64)), (0, .ref (G.1 0))]) hx0 hb d_Md_answerNow_3 rfl hl (by decide) rfl (fun ls hl => ?_)
  obtain ⟨q1, hq3, h⟩ := bnd_some h
  refine W_itr (At := fun (s0 : Int64 × Int32) => ∀ (H : Heap) (locs : List Loc) (ls : Array Slot), ZZT G s M H locs → lv_has ls 5 [(3, .int s0.2), (1, .long s0.1), (0, .ref (G.1 0))] → W p l e rm_Md_answerNow s m args below meth c H locs 0 0 Q (F0 m 4 ls [])) (Ex := fun (q0 : Int64 × Int32) => ∀ (H : Heap) (locs : List Loc) (ls : Array Slot), ZZT G s M H locs → lv_has ls 5 [(1, .long q0.1), (0, .ref (G.1 0))] → W p l e rm_Md_answerNow s m args below meth c H locs 0 0 Q (F0 m 91 ls [])) (fun s0 x h hx => ?_) _ _ q1 hq3 (fun H locs ls hZ hl => ?_) _ _ _ hZ (lv_sub hl [0, 1, 2] rfl)
  · obtain ⟨x1_4, x3_4⟩ := s0
    replace h : p_Md_answerNow_L4 M x1_4 x3_4 = some x := h
    unfold p_Md_answerNow_L4 at h
    intro H locs ls hZ hl
    replace hZ : ZZT G s M H locs := hZ
    replace hl : lv_has ls 5 [(3, .int x3_4), (1, .long x1_4), (0, .ref (G.1 0))] := hl
    refine lv_iload_n hx0 hb d_Md_answerNow_4 rfl (lv_at hl 0 rfl) ?_
    refine lv_aload_n hx0 hb d_Md_answerNow_5 rfl (lv_at hl 2 rfl) ?_
    refine fg_Md_roots hx0 hb hts hown hZ d_Md_answerNow_6 ?_
    refine lv_icmp_ge (tgt := 91) hx0 hb d_Md_answerNow_9 (by decide) (fun c4_1 => ?_) (fun c4_1 => ?_)
    · replace h := (if_pos c4_1).symm.trans h
      obtain rfl := Option.some.inj h
      exact hx _ _ _ hZ (lv_sub hl [1, 2] rfl)
    · replace h := (if_neg c4_1).symm.trans h
      refine lv_aload_n hx0 hb d_Md_answerNow_12 rfl (lv_at hl 2 rfl) ?_
      refine fg_Md_root hx0 hb hts hown hZ d_Md_answerNow_13 ?_
      refine lv_iload_n hx0 hb d_Md_answerNow_16 rfl (lv_at hl 0 rfl) ?_
      obtain ⟨hi4_2, h⟩ := chk_some h
      refine z_ialoadT (k := 6) hx0 hb hZ hi4_2 d_Md_answerNow_17 ?_
      refine lv_istore (lv' := [(4, .int (M.1 6 (Int32.toNatClampNeg x3_4))), (3, .int x3_4), (1, .long x1_4), (0, .ref (G.1 0))]) hx0 hb d_Md_answerNow_18 hl (by decide) rfl (fun ls hl => ?_)
      obtain ⟨q4_3, hq4, h⟩ := bnd_some h
      refine W_itr (At := fun (s0 : Int32) => ∀ (H : Heap) (locs : List Loc) (ls : Array Slot), ZZT G s M H locs → lv_has ls 5 [(4, .int s0), (3, .int x3_4), (1, .long x1_4), (0, .ref (G.1 0))] → W p l e rm_Md_answerNow s m args below meth c H locs 0 0 Q (F0 m 20 ls [])) (Ex := fun (q0 : Int32) => ∀ (H : Heap) (locs : List Loc) (ls : Array Slot), ZZT G s M H locs → lv_has ls 5 [(4, .int q0), (3, .int x3_4), (1, .long x1_4), (0, .ref (G.1 0))] → W p l e rm_Md_answerNow s m args below meth c H locs 0 0 Q (F0 m 74 ls [])) (fun s0 x h hx => ?_) _ _ q4_3 hq4 (fun H locs ls hZ hl => ?_) _ _ _ hZ (lv_sub hl [0, 1, 2, 3] rfl)
      · obtain ⟨x4_20, rfl⟩ : ∃ z, z = s0 := ⟨_, rfl⟩
        replace h : p_Md_answerNow_L20 M x4_20 = some x := h
        unfold p_Md_answerNow_L20 at h
        intro H locs ls hZ hl
        replace hZ : ZZT G s M H locs := hZ
        replace hl : lv_has ls 5 [(4, .int x4_20), (3, .int x3_4), (1, .long x1_4), (0, .ref (G.1 0))] := hl
        refine lv_aload_n hx0 hb d_Md_answerNow_20 rfl (lv_at hl 3 rfl) ?_
        refine fg_Md_isLeaf hx0 hb hts hown hZ d_Md_answerNow_21 ?_
        refine lv_iload hx0 hb d_Md_answerNow_24 (lv_at hl 0 rfl) ?_
        obtain ⟨hi20_1, h⟩ := chk_some h
        refine z_baloadT (k := 1) hx0 hb hZ hi20_1 d_Md_answerNow_26 ?_
        refine lv_if_ne (tgt := 74) hx0 hb d_Md_answerNow_27 (by decide) (fun c20_2 => ?_) (fun c20_2 => ?_)
        · replace h := (if_neg c20_2).symm.trans h
          obtain rfl := Option.some.inj h
          exact hx _ _ _ hZ (lv_sub hl [0, 1, 2, 3] rfl)
        · replace h := (if_pos c20_2).symm.trans h
          refine lv_aload_n hx0 hb d_Md_answerNow_30 rfl (lv_at hl 3 rfl) ?_
          refine fg_Md_now hx0 hb hts hown hZ d_Md_answerNow_31 ?_
          refine lv_aload_n hx0 hb d_Md_answerNow_34 rfl (lv_at hl 3 rfl) ?_
          refine fg_Md_splitOf hx0 hb hts hown hZ d_Md_answerNow_35 ?_
          refine lv_iload hx0 hb d_Md_answerNow_38 (lv_at hl 0 rfl) ?_
          obtain ⟨hi20_3, h⟩ := chk_some h
          refine z_ialoadT (k := 3) hx0 hb hZ hi20_3 d_Md_answerNow_40 ?_
          obtain ⟨hi20_4, h⟩ := chk_some h
          refine z_ialoadT (k := 11) hx0 hb hZ hi20_4 d_Md_answerNow_41 ?_
          refine lv_aload_n hx0 hb d_Md_answerNow_42 rfl (lv_at hl 3 rfl) ?_
          refine fg_Md_number hx0 hb hts hown hZ d_Md_answerNow_43 ?_
          refine lv_iload hx0 hb d_Md_answerNow_46 (lv_at hl 0 rfl) ?_
          obtain ⟨hi20_5, h⟩ := chk_some h
          refine z_ialoadT (k := 2) hx0 hb hZ hi20_5 d_Md_answerNow_48 ?_
          refine lv_icmp_gt (tgt := 62) hx0 hb d_Md_answerNow_49 (by decide) (fun c20_6 => ?_) (fun c20_6 => ?_)
          · replace h := (if_pos c20_6).symm.trans h
            refine lv_aload_n hx0 hb d_Md_answerNow_62 rfl (lv_at hl 3 rfl) ?_
            refine fg_Md_high hx0 hb hts hown hZ d_Md_answerNow_63 ?_
            refine lv_iload hx0 hb d_Md_answerNow_66 (lv_at hl 0 rfl) ?_
            obtain ⟨hi20_7, h⟩ := chk_some h
            refine z_ialoadT (k := 5) hx0 hb hZ hi20_7 d_Md_answerNow_68 ?_
            refine lv_istore (lv' := [(4, .int (M.1 5 (Int32.toNatClampNeg x4_20))), (3, .int x3_4), (1, .long x1_4), (0, .ref (G.1 0))]) hx0 hb d_Md_answerNow_69 hl (by decide) rfl (fun ls hl => ?_)
            refine lv_goto (tgt := 20) hx0 hb d_Md_answerNow_71 (by decide) ?_
            obtain rfl := Option.some.inj h
            exact hx _ _ _ hZ (lv_sub hl [0, 1, 2, 3] rfl)
          · replace h := (if_neg c20_6).symm.trans h
            refine lv_aload_n hx0 hb d_Md_answerNow_52 rfl (lv_at hl 3 rfl) ?_
            refine fg_Md_low hx0 hb hts hown hZ d_Md_answerNow_53 ?_
            refine lv_iload hx0 hb d_Md_answerNow_56 (lv_at hl 0 rfl) ?_
            obtain ⟨hi20_8, h⟩ := chk_some h
            refine z_ialoadT (k := 4) hx0 hb hZ hi20_8 d_Md_answerNow_58 ?_
            refine lv_goto (tgt := 69) hx0 hb d_Md_answerNow_59 (by decide) ?_
            refine lv_istore (lv' := [(4, .int (M.1 4 (Int32.toNatClampNeg x4_20))), (3, .int x3_4), (1, .long x1_4), (0, .ref (G.1 0))]) hx0 hb d_Md_answerNow_69 hl (by decide) rfl (fun ls hl => ?_)
            refine lv_goto (tgt := 20) hx0 hb d_Md_answerNow_71 (by decide) ?_
            obtain rfl := Option.some.inj h
            exact hx _ _ _ hZ (lv_sub hl [0, 1, 2, 3] rfl)
      · replace hZ : ZZT G s M H locs := hZ
        replace hl : lv_has ls 5 [(4, .int q4_3), (3, .int x3_4), (1, .long x1_4), (0, .ref (G.1 0))] := hl
        refine lv_lload_n hx0 hb d_Md_answerNow_74 rfl (lv_at hl 2 rfl) ?_
        refine lv_aload_n hx0 hb d_Md_answerNow_75 rfl (lv_at hl 3 rfl) ?_
        refine fg_Md_number hx0 hb hts hown hZ d_Md_answerNow_76 ?_
        refine lv_iload hx0 hb d_Md_answerNow_79 (lv_at hl 0 rfl) ?_
        obtain ⟨hi4_4, h⟩ := chk_some h
        refine z_ialoadT (k := 2) hx0 hb hZ hi4_4 d_Md_answerNow_81 ?_
        refine lv_i2l (v := Int32.toInt64 (M.1 2 (Int32.toNatClampNeg q4_3))) hx0 hb d_Md_answerNow_82 rfl ?_
        refine lv_ladd hx0 hb d_Md_answerNow_83 ?_
        refine lv_lstore_n (lv' := [(1, .long (x1_4 + (Int32.toInt64 (M.1 2 (Int32.toNatClampNeg q4_3))))), (4, .int q4_3), (3, .int x3_4), (0, .ref (G.1 0))]) hx0 hb d_Md_answerNow_84 rfl hl (by decide) rfl (fun ls hl => ?_)
        refine lv_iinc (v := (x3_4 + (1 : Int32))) (lv' := [(3, .int (x3_4 + (1 : Int32))), (1, .long (x1_4 + (Int32.toInt64 (M.1 2 (Int32.toNatClampNeg q4_3))))), (4, .int q4_3), (0, .ref (G.1 0))]) hx0 hb d_Md_answerNow_85 hl (k := 2) rfl rfl (by decide) rfl (fun ls hl => ?_)
        refine lv_goto (tgt := 4) hx0 hb d_Md_answerNow_88 (by decide) ?_
        obtain rfl := Option.some.inj h
        exact hx _ _ _ hZ (lv_sub hl [0, 1, 3] rfl)
  · replace hZ : ZZT G s M H locs := hZ
    replace hl : lv_has ls 5 [(1, .long q1.1), (0, .ref (G.1 0))] := hl
    refine lv_iconst (v := (0 : Int32)) hx0 hb d_Md_answerNow_91 (by decide) ?_
    refine lv_istore_n (lv' := [(3, .int (0 : Int32)), (1, .long q1.1), (0, .ref (G.1 0))]) hx0 hb d_Md_answerNow_92 rfl hl (by decide) rfl (fun ls hl => ?_)
    obtain ⟨q2, hq5, h⟩ := bnd_some h
    refine W_itr (At := fun (s0 : Int64 × Int32) => ∀ (H : Heap) (locs : List Loc) (ls : Array Slot), ZZT G s M H locs → lv_has ls 5 [(3, .int s0.2), (1, .long s0.1), (0, .ref (G.1 0))] → W p l e rm_Md_answerNow s m args below meth c H locs 0 0 Q (F0 m 93 ls [])) (Ex := fun (q0 : Int64 × Int32) => ∀ (H : Heap) (locs : List Loc) (ls : Array Slot), ZZT G s M H locs → lv_has ls 5 [(1, .long q0.1)] → W p l e rm_Md_answerNow s m args below meth c H locs 0 0 Q (F0 m 124 ls [])) (fun s0 x h hx => ?_) _ _ q2 hq5 (fun H locs ls hZ hl => ?_) _ _ _ hZ (lv_sub hl [0, 1, 2] rfl)
    · obtain ⟨x1_93, x3_93⟩ := s0
      replace h : p_Md_answerNow_L93 M x1_93 x3_93 = some x := h
      unfold p_Md_answerNow_L93 at h
      intro H locs ls hZ hl
      replace hZ : ZZT G s M H locs := hZ
      replace hl : lv_has ls 5 [(3, .int x3_93), (1, .long x1_93), (0, .ref (G.1 0))] := hl
      refine lv_iload_n hx0 hb d_Md_answerNow_93 rfl (lv_at hl 0 rfl) ?_
      refine lv_aload_n hx0 hb d_Md_answerNow_94 rfl (lv_at hl 2 rfl) ?_
      refine fg_Md_columns hx0 hb hts hown hZ d_Md_answerNow_95 ?_
      refine lv_icmp_ge (tgt := 124) hx0 hb d_Md_answerNow_98 (by decide) (fun c93_1 => ?_) (fun c93_1 => ?_)
      · replace h := (if_pos c93_1).symm.trans h
        obtain rfl := Option.some.inj h
        exact hx _ _ _ hZ (lv_sub hl [1] rfl)
      · replace h := (if_neg c93_1).symm.trans h
        refine lv_lload_n hx0 hb d_Md_answerNow_101 rfl (lv_at hl 1 rfl) ?_
        refine lv_aload_n hx0 hb d_Md_answerNow_102 rfl (lv_at hl 2 rfl) ?_
        refine fg_Md_weights hx0 hb hts hown hZ d_Md_answerNow_103 ?_
        refine lv_iload_n hx0 hb d_Md_answerNow_106 rfl (lv_at hl 0 rfl) ?_
        obtain ⟨hi93_2, h⟩ := chk_some h
        refine z_ialoadT (k := 7) hx0 hb hZ hi93_2 d_Md_answerNow_107 ?_
        refine lv_aload_n hx0 hb d_Md_answerNow_108 rfl (lv_at hl 2 rfl) ?_
        refine fg_Md_now hx0 hb hts hown hZ d_Md_answerNow_109 ?_
        refine lv_iload_n hx0 hb d_Md_answerNow_112 rfl (lv_at hl 0 rfl) ?_
        obtain ⟨hi93_3, h⟩ := chk_some h
        refine z_ialoadT (k := 11) hx0 hb hZ hi93_3 d_Md_answerNow_113 ?_
        refine lv_imul hx0 hb d_Md_answerNow_114 ?_
        refine lv_i2l (v := Int32.toInt64 ((M.1 7 (Int32.toNatClampNeg x3_93)) * (M.1 11 (Int32.toNatClampNeg x3_93)))) hx0 hb d_Md_answerNow_115 rfl ?_
        refine lv_ladd hx0 hb d_Md_answerNow_116 ?_
        refine lv_lstore_n (lv' := [(1, .long (x1_93 + (Int32.toInt64 ((M.1 7 (Int32.toNatClampNeg x3_93)) * (M.1 11 (Int32.toNatClampNeg x3_93)))))), (3, .int x3_93), (0, .ref (G.1 0))]) hx0 hb d_Md_answerNow_117 rfl hl (by decide) rfl (fun ls hl => ?_)
        refine lv_iinc (v := (x3_93 + (1 : Int32))) (lv' := [(3, .int (x3_93 + (1 : Int32))), (1, .long (x1_93 + (Int32.toInt64 ((M.1 7 (Int32.toNatClampNeg x3_93)) * (M.1 11 (Int32.toNatClampNeg x3_93)))))), (0, .ref (G.1 0))]) hx0 hb d_Md_answerNow_118 hl (k := 1) rfl rfl (by decide) rfl (fun ls hl => ?_)
        refine lv_goto (tgt := 93) hx0 hb d_Md_answerNow_121 (by decide) ?_
        obtain rfl := Option.some.inj h
        exact hx _ _ _ hZ (lv_sub hl [0, 1, 2] rfl)
    · replace hZ : ZZT G s M H locs := hZ
      replace hl : lv_has ls 5 [(1, .long q2.1)] := hl
      refine lv_lload_n hx0 hb d_Md_answerNow_124 rfl (lv_at hl 0 rfl) ?_
      obtain rfl := Option.some.inj h
      exact z_lretT hx0 hb hr hZ hlocks hQ d_Md_answerNow_125
abbrev rm_Md_answer : Room := ({ frames := 1, cells := 0, slots := 0, locals := 24 } : Room)
set_option maxHeartbeats 4000000 in
set_option maxRecDepth 100000 in
theorem c_Md_answer (l : Launch) (G : zG) (a1 : Int32) (M : Mem) (r : Int64 × Mem) (h : p_Md_answer a1 M = some r) : MetZT l G y_Md_answer (Cond.code y_Md_answer b_Md_answer 2 (some .long) :: zws) rm_Md_answer [.ref (G.1 0), .int a1] M (some (.long r.1)) r.2 := by
  unfold p_Md_answer at h
  refine z_ofWT (lv := [(0, .ref (G.1 0)), (1, .int a1)]) (by decide) (Nat.le_of_ble_eq_true rfl) rfl (fun p e R s m args below meth c Q ls F hl hZ => ?_)
  obtain ⟨hx0, hb, hml, hr, hts, hown, hlocks, rfl, hQ⟩ := F
  refine lv_aload_n hx0 hb d_Md_answer_0 rfl (lv_at hl 0 rfl) ?_
  refine lv_iconst (v := (0 : Int32)) hx0 hb d_Md_answer_1 (by decide) ?_
  refine fp_Md_code hx0 hb hts hown hZ d_Md_answer_2 (fun H locs hZ => ?_)
  obtain ⟨m1, em1, h⟩ := nm_some h
  rw [em1] at hZ
  refine lv_iload_n hx0 hb d_Md_answer_5 rfl (lv_at hl 1 rfl) ?_
  refine lv_iconst (v := (-1 : Int32)) hx0 hb d_Md_answer_6 (by decide) ?_
  refine lv_aload_n hx0 hb d_Md_answer_7 rfl (lv_at hl 0 rfl) ?_
  refine fg_Md_rows hx0 hb hts hown hZ d_Md_answer_8 ?_
  refine lv_iconst (v := (1 : Int32)) hx0 hb d_Md_answer_11 (by decide) ?_
  refine lv_isub hx0 hb d_Md_answer_12 ?_
  obtain ⟨q2, hc8, h⟩ := bnd_some h
  refine k_Md_Md_in [.int a1, .int (-1 : Int32), .int ((m1.1 0 13) - (1 : Int32))] hx0 hb hml hts hown (c_Md_in l G a1 (-1 : Int32) ((m1.1 0 13) - (1 : Int32)) m1 q2 hc8) hZ rfl rfl ⟨Nat.le_of_ble_eq_true rfl, Nat.le_of_ble_eq_true rfl⟩ hl.1 rfl (Nat.le_of_ble_eq_true rfl) d_Md_answer_13 (fun H locs hZ => ?_)
  refine lv_if_ne (tgt := 23) hx0 hb d_Md_answer_16 (by decide) (fun c3 => ?_) (fun c3 => ?_)
  · replace h := (if_neg c3).symm.trans h
    refine lv_aload_n hx0 hb d_Md_answer_23 rfl (lv_at hl 0 rfl) ?_
    refine lv_iload_n hx0 hb d_Md_answer_24 rfl (lv_at hl 1 rfl) ?_
    refine lv_iconst (v := (1 : Int32)) hx0 hb d_Md_answer_25 (by decide) ?_
    refine lv_iadd hx0 hb d_Md_answer_26 ?_
    obtain ⟨q4, hc7, h⟩ := bnd_some h
    refine k_Md_Md_take [.int (a1 + (1 : Int32))] hx0 hb hml hts hown (c_Md_take l G (a1 + (1 : Int32)) m1 q4 hc7) hZ rfl rfl ⟨Nat.le_of_ble_eq_true rfl, Nat.le_of_ble_eq_true rfl⟩ hl.1 rfl (Nat.le_of_ble_eq_true rfl) d_Md_answer_27 (fun H locs hZ => ?_)
    refine lv_aload_n hx0 hb d_Md_answer_30 rfl (lv_at hl 0 rfl) ?_
    obtain ⟨q5, hc6, h⟩ := bnd_some h
    refine k_Md_Md_answerNow [] hx0 hb hml hts hown (c_Md_answerNow l G  q4 q5 hc6) hZ rfl rfl ⟨Nat.le_of_ble_eq_true rfl, Nat.le_of_ble_eq_true rfl⟩ hl.1 rfl (Nat.le_of_ble_eq_true rfl) d_Md_answer_31 (fun H locs hZ => ?_)
    obtain rfl := Option.some.inj h
    exact z_lretT hx0 hb hr hZ hlocks hQ d_Md_answer_34
  · replace h := (if_pos c3).symm.trans h
    refine lv_ldc2 (v := (-1000000000000 : Int64)) hx0 hb hown (hts _ wk_Md_91) d_Md_answer_19 ?_
    obtain rfl := Option.some.inj h
    exact z_lretT hx0 hb hr hZ hlocks hQ d_Md_answer_22
