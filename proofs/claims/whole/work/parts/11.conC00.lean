abbrev rm_Ln_addNode : Room := ({ frames := 0, cells := 0, slots := 0, locals := 0 } : Room)
set_option maxHeartbeats 4000000 in
set_option maxRecDepth 100000 in
theorem c_Ln_addNode (l : Launch) (G : zG) (a1 : Int32) (a2 : Int32) (a3 : Int32) (a4 : Int32) (M : Mem) (r : Int32 × Mem) (h : p_Ln_addNode a1 a2 a3 a4 M = some r) : MetZC l G y_Ln_addNode (Cond.code y_Ln_addNode b_Ln_addNode 5 (some .int) :: zws) rm_Ln_addNode [.ref (G.1 1), .int a1, .int a2, .int a3, .int a4] M (some (.int r.1)) r.2 := by
  unfold p_Ln_addNode at h
  refine z_ofWC (lv := [(0, .ref (G.1 1)), (1, .int a1), (2, .int a2), (3, .int a3), (4, .int a4)]) (by decide) (Nat.le_of_ble_eq_true rfl) rfl (fun p e R s m args below meth c Q ls F hl hZ => ?_)
  obtain ⟨hx0, hb, hml, hr, hts, hown, hlocks, rfl, hQ⟩ := F
  refine lv_aload_n hx0 hb d_Ln_addNode_0 rfl (lv_at hl 0 rfl) ?_
  refine fg_Ln_nodeCount hx0 hb hts hown hZ d_Ln_addNode_1 ?_
  refine lv_bipush (v := (30 : Int32)) hx0 hb d_Ln_addNode_4 (by decide) ?_
  refine lv_icmp_lt (tgt := 12) hx0 hb d_Ln_addNode_6 (by decide) (fun c1 => ?_) (fun c1 => ?_)
  · replace h := (if_pos c1).symm.trans h
    refine lv_aload_n hx0 hb d_Ln_addNode_12 rfl (lv_at hl 0 rfl) ?_
    refine fg_Ln_columnOf hx0 hb hts hown hZ d_Ln_addNode_13 ?_
    refine lv_aload_n hx0 hb d_Ln_addNode_16 rfl (lv_at hl 0 rfl) ?_
    refine fg_Ln_nodeCount hx0 hb hts hown hZ d_Ln_addNode_17 ?_
    refine lv_iload_n hx0 hb d_Ln_addNode_20 rfl (lv_at hl 1 rfl) ?_
    obtain ⟨hi2, h⟩ := chk_some h
    refine z_iastoreC (k := 2) hx0 hb hZ hi2 d_Ln_addNode_21 (fun H locs hZ => ?_)
    obtain ⟨m3, em3, h⟩ := nm_some h
    rw [em3] at hZ
    refine lv_aload_n hx0 hb d_Ln_addNode_22 rfl (lv_at hl 0 rfl) ?_
    refine fg_Ln_numberOf hx0 hb hts hown hZ d_Ln_addNode_23 ?_
    refine lv_aload_n hx0 hb d_Ln_addNode_26 rfl (lv_at hl 0 rfl) ?_
    refine fg_Ln_nodeCount hx0 hb hts hown hZ d_Ln_addNode_27 ?_
    refine lv_iload_n hx0 hb d_Ln_addNode_30 rfl (lv_at hl 2 rfl) ?_
    obtain ⟨hi4, h⟩ := chk_some h
    refine z_iastoreC (k := 3) hx0 hb hZ hi4 d_Ln_addNode_31 (fun H locs hZ => ?_)
    obtain ⟨m5, em5, h⟩ := nm_some h
    rw [em5] at hZ
    refine lv_aload_n hx0 hb d_Ln_addNode_32 rfl (lv_at hl 0 rfl) ?_
    refine fg_Ln_lowOf hx0 hb hts hown hZ d_Ln_addNode_33 ?_
    refine lv_aload_n hx0 hb d_Ln_addNode_36 rfl (lv_at hl 0 rfl) ?_
    refine fg_Ln_nodeCount hx0 hb hts hown hZ d_Ln_addNode_37 ?_
    refine lv_iload_n hx0 hb d_Ln_addNode_40 rfl (lv_at hl 3 rfl) ?_
    obtain ⟨hi6, h⟩ := chk_some h
    refine z_iastoreC (k := 4) hx0 hb hZ hi6 d_Ln_addNode_41 (fun H locs hZ => ?_)
    obtain ⟨m7, em7, h⟩ := nm_some h
    rw [em7] at hZ
    refine lv_aload_n hx0 hb d_Ln_addNode_42 rfl (lv_at hl 0 rfl) ?_
    refine fg_Ln_highOf hx0 hb hts hown hZ d_Ln_addNode_43 ?_
    refine lv_aload_n hx0 hb d_Ln_addNode_46 rfl (lv_at hl 0 rfl) ?_
    refine fg_Ln_nodeCount hx0 hb hts hown hZ d_Ln_addNode_47 ?_
    refine lv_iload hx0 hb d_Ln_addNode_50 (lv_at hl 4 rfl) ?_
    obtain ⟨hi8, h⟩ := chk_some h
    refine z_iastoreC (k := 5) hx0 hb hZ hi8 d_Ln_addNode_52 (fun H locs hZ => ?_)
    obtain ⟨m9, em9, h⟩ := nm_some h
    rw [em9] at hZ
    refine lv_aload_n hx0 hb d_Ln_addNode_53 rfl (lv_at hl 0 rfl) ?_
    refine lv_dup hx0 hb d_Ln_addNode_54 rfl ?_
    refine fg_Ln_nodeCount hx0 hb hts hown hZ d_Ln_addNode_55 ?_
    refine lv_iconst (v := (1 : Int32)) hx0 hb d_Ln_addNode_58 (by decide) ?_
    refine lv_iadd hx0 hb d_Ln_addNode_59 ?_
    refine fp_Ln_nodeCount hx0 hb hts hown hZ d_Ln_addNode_60 (fun H locs hZ => ?_)
    obtain ⟨m10, em10, h⟩ := nm_some h
    rw [em10] at hZ
    refine lv_aload_n hx0 hb d_Ln_addNode_63 rfl (lv_at hl 0 rfl) ?_
    refine fg_Ln_nodeCount hx0 hb hts hown hZ d_Ln_addNode_64 ?_
    refine lv_iconst (v := (1 : Int32)) hx0 hb d_Ln_addNode_67 (by decide) ?_
    refine lv_isub hx0 hb d_Ln_addNode_68 ?_
    obtain rfl := Option.some.inj h
    exact z_iretC hx0 hb hr hZ hlocks hQ d_Ln_addNode_69
  · replace h := (if_neg c1).symm.trans h
    refine lv_bipush (v := (-4 : Int32)) hx0 hb d_Ln_addNode_9 (by decide) ?_
    obtain rfl := Option.some.inj h
    exact z_iretC hx0 hb hr hZ hlocks hQ d_Ln_addNode_11
abbrev rm_Ln_addLeaf : Room := ({ frames := 1, cells := 0, slots := 0, locals := 24 } : Room)
set_option maxHeartbeats 4000000 in
set_option maxRecDepth 100000 in
theorem c_Ln_addLeaf (l : Launch) (G : zG) (a1 : Int32) (M : Mem) (r : Int32 × Mem) (h : p_Ln_addLeaf a1 M = some r) : MetZC l G y_Ln_addLeaf (Cond.code y_Ln_addLeaf b_Ln_addLeaf 2 (some .int) :: zws) rm_Ln_addLeaf [.ref (G.1 1), .int a1] M (some (.int r.1)) r.2 := by
  unfold p_Ln_addLeaf at h
  refine z_ofWC (lv := [(0, .ref (G.1 1)), (1, .int a1)]) (by decide) (Nat.le_of_ble_eq_true rfl) rfl (fun p e R s m args below meth c Q ls F hl hZ => ?_)
  obtain ⟨hx0, hb, hml, hr, hts, hown, hlocks, rfl, hQ⟩ := F
  refine lv_aload_n hx0 hb d_Ln_addLeaf_0 rfl (lv_at hl 0 rfl) ?_
  refine lv_iconst (v := (-1 : Int32)) hx0 hb d_Ln_addLeaf_1 (by decide) ?_
  refine lv_iload_n hx0 hb d_Ln_addLeaf_2 rfl (lv_at hl 1 rfl) ?_
  refine lv_iconst (v := (0 : Int32)) hx0 hb d_Ln_addLeaf_3 (by decide) ?_
  refine lv_iconst (v := (0 : Int32)) hx0 hb d_Ln_addLeaf_4 (by decide) ?_
  obtain ⟨q1, hc2, h⟩ := bnd_some h
  refine k_Ln_Ln_addNode [.int (-1 : Int32), .int a1, .int (0 : Int32), .int (0 : Int32)] hx0 hb hml hts hown (c_Ln_addNode l G (-1 : Int32) a1 (0 : Int32) (0 : Int32) M q1 hc2) hZ rfl rfl ⟨Nat.le_of_ble_eq_true rfl, Nat.le_of_ble_eq_true rfl⟩ hl.1 rfl (Nat.le_of_ble_eq_true rfl) d_Ln_addLeaf_5 (fun H locs hZ => ?_)
  obtain rfl := Option.some.inj h
  exact z_iretC hx0 hb hr hZ hlocks hQ d_Ln_addLeaf_8
abbrev rm_Ln_hasNode : Room := ({ frames := 0, cells := 0, slots := 0, locals := 0 } : Room)
set_option maxHeartbeats 4000000 in
set_option maxRecDepth 100000 in
theorem c_Ln_hasNode (l : Launch) (G : zG) (a1 : Int32) (M : Mem) (r : Int32) (h : p_Ln_hasNode a1 M = some r) : MetZC l G y_Ln_hasNode (Cond.code y_Ln_hasNode b_Ln_hasNode 2 (some .boolean) :: zws) rm_Ln_hasNode [.ref (G.1 1), .int a1] M (some (.int r)) M := by
  unfold p_Ln_hasNode at h
  refine z_ofWC (lv := [(0, .ref (G.1 1)), (1, .int a1)]) (by decide) (Nat.le_of_ble_eq_true rfl) rfl (fun p e R s m args below meth c Q ls F hl hZ => ?_)
  obtain ⟨hx0, hb, hml, hr, hts, hown, hlocks, rfl, hQ⟩ := F
  refine lv_iload_n hx0 hb d_Ln_hasNode_0 rfl (lv_at hl 1 rfl) ?_
  refine lv_if_lt (tgt := 16) hx0 hb d_Ln_hasNode_1 (by decide) (fun c1 => ?_) (fun c1 => ?_)
  · replace h := (if_pos c1).symm.trans h
    refine lv_iconst (v := (0 : Int32)) hx0 hb d_Ln_hasNode_16 (by decide) ?_
    obtain rfl := Option.some.inj h
    exact z_zretC hx0 hb hr hZ hlocks hQ rfl d_Ln_hasNode_17
  · replace h := (if_neg c1).symm.trans h
    refine lv_iload_n hx0 hb d_Ln_hasNode_4 rfl (lv_at hl 1 rfl) ?_
    refine lv_aload_n hx0 hb d_Ln_hasNode_5 rfl (lv_at hl 0 rfl) ?_
    refine fg_Ln_nodeCount hx0 hb hts hown hZ d_Ln_hasNode_6 ?_
    refine lv_icmp_ge (tgt := 16) hx0 hb d_Ln_hasNode_9 (by decide) (fun c2 => ?_) (fun c2 => ?_)
    · replace h := (if_pos c2).symm.trans h
      refine lv_iconst (v := (0 : Int32)) hx0 hb d_Ln_hasNode_16 (by decide) ?_
      obtain rfl := Option.some.inj h
      exact z_zretC hx0 hb hr hZ hlocks hQ rfl d_Ln_hasNode_17
    · replace h := (if_neg c2).symm.trans h
      refine lv_iconst (v := (1 : Int32)) hx0 hb d_Ln_hasNode_12 (by decide) ?_
      refine lv_goto (tgt := 17) hx0 hb d_Ln_hasNode_13 (by decide) ?_
      obtain rfl := Option.some.inj h
      exact z_zretC hx0 hb hr hZ hlocks hQ rfl d_Ln_hasNode_17
abbrev rm_Ln_addSplit : Room := ({ frames := 1, cells := 0, slots := 0, locals := 24 } : Room)
set_option maxHeartbeats 4000000 in
set_option maxRecDepth 100000 in
theorem c_Ln_addSplit (l : Launch) (G : zG) (a1 : Int32) (a2 : Int32) (a3 : Int32) (a4 : Int32) (M : Mem) (r : Int32 × Mem) (h : p_Ln_addSplit a1 a2 a3 a4 M = some r) : MetZC l G y_Ln_addSplit (Cond.code y_Ln_addSplit b_Ln_addSplit 5 (some .int) :: zws) rm_Ln_addSplit [.ref (G.1 1), .int a1, .int a2, .int a3, .int a4] M (some (.int r.1)) r.2 := by
  unfold p_Ln_addSplit at h
  refine z_ofWC (lv := [(0, .ref (G.1 1)), (1, .int a1), (2, .int a2), (3, .int a3), (4, .int a4)]) (by decide) (Nat.le_of_ble_eq_true rfl) rfl (fun p e R s m args below meth c Q ls F hl hZ => ?_)
  obtain ⟨hx0, hb, hml, hr, hts, hown, hlocks, rfl, hQ⟩ := F
  refine lv_aload_n hx0 hb d_Ln_addSplit_0 rfl (lv_at hl 0 rfl) ?_
  refine lv_iload_n hx0 hb d_Ln_addSplit_1 rfl (lv_at hl 1 rfl) ?_
  refine lv_iload_n hx0 hb d_Ln_addSplit_2 rfl (lv_at hl 2 rfl) ?_
  refine lv_iload_n hx0 hb d_Ln_addSplit_3 rfl (lv_at hl 3 rfl) ?_
  refine lv_iload hx0 hb d_Ln_addSplit_4 (lv_at hl 4 rfl) ?_
  obtain ⟨q1, hc2, h⟩ := bnd_some h
  refine k_Ln_Ln_addNode [.int a1, .int a2, .int a3, .int a4] hx0 hb hml hts hown (c_Ln_addNode l G a1 a2 a3 a4 M q1 hc2) hZ rfl rfl ⟨Nat.le_of_ble_eq_true rfl, Nat.le_of_ble_eq_true rfl⟩ hl.1 rfl (Nat.le_of_ble_eq_true rfl) d_Ln_addSplit_6 (fun H locs hZ => ?_)
  obtain rfl := Option.some.inj h
  exact z_iretC hx0 hb hr hZ hlocks hQ d_Ln_addSplit_9
abbrev rm_Ln_addRoot : Room := ({ frames := 0, cells := 0, slots := 0, locals := 0 } : Room)
set_option maxHeartbeats 4000000 in
set_option maxRecDepth 100000 in
theorem c_Ln_addRoot (l : Launch) (G : zG) (a1 : Int32) (M : Mem) (r : Int32 × Mem) (h : p_Ln_addRoot a1 M = some r) : MetZC l G y_Ln_addRoot (Cond.code y_Ln_addRoot b_Ln_addRoot 2 (some .int) :: zws) rm_Ln_addRoot [.ref (G.1 1), .int a1] M (some (.int r.1)) r.2 := by
  unfold p_Ln_addRoot at h
  refine z_ofWC (lv := [(0, .ref (G.1 1)), (1, .int a1)]) (by decide) (Nat.le_of_ble_eq_true rfl) rfl (fun p e R s m args below meth c Q ls F hl hZ => ?_)
  obtain ⟨hx0, hb, hml, hr, hts, hown, hlocks, rfl, hQ⟩ := F
  refine lv_aload_n hx0 hb d_Ln_addRoot_0 rfl (lv_at hl 0 rfl) ?_
  refine fg_Ln_rootCount hx0 hb hts hown hZ d_Ln_addRoot_1 ?_
  refine lv_iconst (v := (4 : Int32)) hx0 hb d_Ln_addRoot_4 (by decide) ?_
  refine lv_icmp_lt (tgt := 11) hx0 hb d_Ln_addRoot_5 (by decide) (fun c1 => ?_) (fun c1 => ?_)
  · replace h := (if_pos c1).symm.trans h
    refine lv_aload_n hx0 hb d_Ln_addRoot_11 rfl (lv_at hl 0 rfl) ?_
    refine fg_Ln_roots hx0 hb hts hown hZ d_Ln_addRoot_12 ?_
    refine lv_aload_n hx0 hb d_Ln_addRoot_15 rfl (lv_at hl 0 rfl) ?_
    refine fg_Ln_rootCount hx0 hb hts hown hZ d_Ln_addRoot_16 ?_
    refine lv_iload_n hx0 hb d_Ln_addRoot_19 rfl (lv_at hl 1 rfl) ?_
    obtain ⟨hi2, h⟩ := chk_some h
    refine z_iastoreC (k := 7) hx0 hb hZ hi2 d_Ln_addRoot_20 (fun H locs hZ => ?_)
    obtain ⟨m3, em3, h⟩ := nm_some h
    rw [em3] at hZ
    refine lv_aload_n hx0 hb d_Ln_addRoot_21 rfl (lv_at hl 0 rfl) ?_
    refine lv_dup hx0 hb d_Ln_addRoot_22 rfl ?_
    refine fg_Ln_rootCount hx0 hb hts hown hZ d_Ln_addRoot_23 ?_
    refine lv_iconst (v := (1 : Int32)) hx0 hb d_Ln_addRoot_26 (by decide) ?_
    refine lv_iadd hx0 hb d_Ln_addRoot_27 ?_
    refine fp_Ln_rootCount hx0 hb hts hown hZ d_Ln_addRoot_28 (fun H locs hZ => ?_)
    obtain ⟨m4, em4, h⟩ := nm_some h
    rw [em4] at hZ
    refine lv_aload_n hx0 hb d_Ln_addRoot_31 rfl (lv_at hl 0 rfl) ?_
    refine fg_Ln_rootCount hx0 hb hts hown hZ d_Ln_addRoot_32 ?_
    obtain rfl := Option.some.inj h
    exact z_iretC hx0 hb hr hZ hlocks hQ d_Ln_addRoot_35
  · replace h := (if_neg c1).symm.trans h
    refine lv_bipush (v := (-4 : Int32)) hx0 hb d_Ln_addRoot_8 (by decide) ?_
    obtain rfl := Option.some.inj h
    exact z_iretC hx0 hb hr hZ hlocks hQ d_Ln_addRoot_10
abbrev rm_Ln_weigh : Room := ({ frames := 0, cells := 0, slots := 0, locals := 0 } : Room)
set_option maxHeartbeats 4000000 in
set_option maxRecDepth 100000 in
theorem c_Ln_weigh (l : Launch) (G : zG) (a1 : Int32) (a2 : Int32) (M : Mem) (r : Mem) (h : p_Ln_weigh a1 a2 M = some r) : MetZC l G y_Ln_weigh (Cond.code y_Ln_weigh b_Ln_weigh 3 none :: zws) rm_Ln_weigh [.ref (G.1 1), .int a1, .int a2] M none r := by
  unfold p_Ln_weigh at h
  refine z_ofWC (lv := [(0, .ref (G.1 1)), (1, .int a1), (2, .int a2)]) (by decide) (Nat.le_of_ble_eq_true rfl) rfl (fun p e R s m args below meth c Q ls F hl hZ => ?_)
  obtain ⟨hx0, hb, hml, hr, hts, hown, hlocks, rfl, hQ⟩ := F
  refine lv_aload_n hx0 hb d_Ln_weigh_0 rfl (lv_at hl 0 rfl) ?_
  refine fg_Ln_weights hx0 hb hts hown hZ d_Ln_weigh_1 ?_
  refine lv_iload_n hx0 hb d_Ln_weigh_4 rfl (lv_at hl 1 rfl) ?_
  refine lv_iload_n hx0 hb d_Ln_weigh_5 rfl (lv_at hl 2 rfl) ?_
  obtain ⟨hi1, h⟩ := chk_some h
  refine z_iastoreC (k := 8) hx0 hb hZ hi1 d_Ln_weigh_6 (fun H locs hZ => ?_)
  obtain ⟨m2, em2, h⟩ := nm_some h
  rw [em2] at hZ
  obtain rfl := Option.some.inj h
  exact z_vretC hx0 hb hr hZ hlocks hQ d_Ln_weigh_7
abbrev rm_Ln_forget : Room := ({ frames := 0, cells := 0, slots := 0, locals := 0 } : Room)
set_option maxHeartbeats 4000000 in
set_option maxRecDepth 100000 in
theorem c_Ln_forget (l : Launch) (G : zG)  (M : Mem) (r : Int32 × Mem) (h : p_Ln_forget  M = some r) : MetZC l G y_Ln_forget (Cond.code y_Ln_forget b_Ln_forget 3 (some .int) :: zws) rm_Ln_forget [.ref (G.1 1)] M (some (.int r.1)) r.2 := by
  unfold p_Ln_forget at h
  refine z_ofWC (lv := [(0, .ref (G.1 1))]) (by decide) (Nat.le_of_ble_eq_true rfl) rfl (fun p e R s m args below meth c Q ls F hl hZ => ?_)
  obtain ⟨hx0, hb, hml, hr, hts, hown, hlocks, rfl, hQ⟩ := F
  refine lv_aload_n hx0 hb d_Ln_forget_0 rfl (lv_at hl 0 rfl) ?_
  refine fg_Ln_nodeCount hx0 hb hts hown hZ d_Ln_forget_1 ?_
  refine lv_istore_n (lv' := [(1, .int (M.1 1 7)), (0, .ref (G.1 1))]) hx0 hb d_Ln_forget_4 rfl hl (by decide) rfl (fun ls hl => ?_)
  refine lv_aload_n hx0 hb d_Ln_forget_5 rfl (lv_at hl 1 rfl) ?_
  refine lv_iconst (v := (0 : Int32)) hx0 hb d_Ln_forget_6 (by decide) ?_
  refine fp_Ln_nodeCount hx0 hb hts hown hZ d_Ln_forget_7 (fun H locs hZ => ?_)
  obtain ⟨m1, em1, h⟩ := nm_some h
  rw [em1] at hZ
  refine lv_aload_n hx0 hb d_Ln_forget_10 rfl (lv_at hl 1 rfl) ?_
  refine lv_iconst (v := (0 : Int32)) hx0 hb d_Ln_forget_11 (by decide) ?_
  refine fp_Ln_rootCount hx0 hb hts hown hZ d_Ln_forget_12 (fun H locs hZ => ?_)
  obtain ⟨m2, em2, h⟩ := nm_some h
  rw [em2] at hZ
  refine lv_iconst (v := (0 : Int32)) hx0 hb d_Ln_forget_15 (by decide) ?_
  refine lv_istore_n (lv' := [(2, .int (0 : Int32)), (1, .int (M.1 1 7)), (0, .ref (G.1 1))]) hx0 hb d_Ln_forget_16 rfl hl (by decide) rfl (fun ls hl => ?_)
  obtain ⟨q3, hq4, h⟩ := bnd_some h
  refine W_itr (At := fun (s0 : Int32 × Mem) => ∀ (H : Heap) (locs : List Loc) (ls : Array Slot), ZZC G s s0.2 H locs → lv_has ls 3 [(2, .int s0.1), (1, .int (M.1 1 7)), (0, .ref (G.1 1))] → W p l e rm_Ln_forget s m args below meth c H locs 0 0 Q (F0 m 17 ls [])) (Ex := fun (q0 : Int32 × Mem) => ∀ (H : Heap) (locs : List Loc) (ls : Array Slot), ZZC G s q0.2 H locs → lv_has ls 3 [(1, .int (M.1 1 7))] → W p l e rm_Ln_forget s m args below meth c H locs 0 0 Q (F0 m 36 ls [])) (fun s0 x h hx => ?_) _ _ q3 hq4 (fun H locs ls hZ hl => ?_) _ _ _ hZ (lv_sub hl [0, 1, 2] rfl)
  · obtain ⟨x2_17, M_17⟩ := s0
    replace h : p_Ln_forget_L17 x2_17 M_17 = some x := h
    unfold p_Ln_forget_L17 at h
    intro H locs ls hZ hl
    replace hZ : ZZC G s M_17 H locs := hZ
    replace hl : lv_has ls 3 [(2, .int x2_17), (1, .int (M.1 1 7)), (0, .ref (G.1 1))] := hl
    refine lv_iload_n hx0 hb d_Ln_forget_17 rfl (lv_at hl 0 rfl) ?_
    refine lv_bipush (v := (6 : Int32)) hx0 hb d_Ln_forget_18 (by decide) ?_
    refine lv_icmp_ge (tgt := 36) hx0 hb d_Ln_forget_20 (by decide) (fun c17_1 => ?_) (fun c17_1 => ?_)
    · replace h := (if_pos c17_1).symm.trans h
      obtain rfl := Option.some.inj h
      exact hx _ _ _ hZ (lv_sub hl [1] rfl)
    · replace h := (if_neg c17_1).symm.trans h
      refine lv_aload_n hx0 hb d_Ln_forget_23 rfl (lv_at hl 2 rfl) ?_
      refine fg_Ln_weights hx0 hb hts hown hZ d_Ln_forget_24 ?_
      refine lv_iload_n hx0 hb d_Ln_forget_27 rfl (lv_at hl 0 rfl) ?_
      refine lv_iconst (v := (0 : Int32)) hx0 hb d_Ln_forget_28 (by decide) ?_
      obtain ⟨hi17_2, h⟩ := chk_some h
      refine z_iastoreC (k := 8) hx0 hb hZ hi17_2 d_Ln_forget_29 (fun H locs hZ => ?_)
      obtain ⟨m17_3, em17_3, h⟩ := nm_some h
      rw [em17_3] at hZ
      refine lv_iinc (v := (x2_17 + (1 : Int32))) (lv' := [(2, .int (x2_17 + (1 : Int32))), (1, .int (M.1 1 7)), (0, .ref (G.1 1))]) hx0 hb d_Ln_forget_30 hl (k := 0) rfl rfl (by decide) rfl (fun ls hl => ?_)
      refine lv_goto (tgt := 17) hx0 hb d_Ln_forget_33 (by decide) ?_
      obtain rfl := Option.some.inj h
      exact hx _ _ _ hZ (lv_sub hl [0, 1, 2] rfl)
  · replace hZ : ZZC G s q3.2 H locs := hZ
    replace hl : lv_has ls 3 [(1, .int (M.1 1 7))] := hl
    refine lv_iload_n hx0 hb d_Ln_forget_36 rfl (lv_at hl 0 rfl) ?_
    obtain rfl := Option.some.inj h
    exact z_iretC hx0 hb hr hZ hlocks hQ d_Ln_forget_37
abbrev rm_Ln_givenBy : Room := ({ frames := 0, cells := 0, slots := 0, locals := 0 } : Room)
set_option maxHeartbeats 4000000 in
set_option maxRecDepth 100000 in
theorem c_Ln_givenBy (l : Launch) (G : zG) (a1 : Int32) (a2 : Nat) (M : Mem) (r : Int32) (h : p_Ln_givenBy a1 a2 M = some r) : MetZC l G y_Ln_givenBy (Cond.code y_Ln_givenBy b_Ln_givenBy 6 (some .int) :: zws) rm_Ln_givenBy [.ref (G.1 1), .int a1, .ref (G.1 a2)] M (some (.int r)) M := by
  unfold p_Ln_givenBy at h
  refine z_ofWC (lv := [(0, .ref (G.1 1)), (1, .int a1), (2, .ref (G.1 a2))]) (by decide) (Nat.le_of_ble_eq_true rfl) rfl (fun p e R s m args below meth c Q ls F hl hZ => ?_)
  obtain ⟨hx0, hb, hml, hr, hts, hown, hlocks, rfl, hQ⟩ := F
  refine lv_iload_n hx0 hb d_Ln_givenBy_0 rfl (lv_at hl 1 rfl) ?_
  refine lv_istore_n (lv' := [(3, .int a1), (0, .ref (G.1 1)), (1, .int a1), (2, .ref (G.1 a2))]) hx0 hb d_Ln_givenBy_1 rfl hl (by decide) rfl (fun ls hl => ?_)
  refine lv_iconst (v := (0 : Int32)) hx0 hb d_Ln_givenBy_2 (by decide) ?_
  refine lv_istore (lv' := [(4, .int (0 : Int32)), (3, .int a1), (0, .ref (G.1 1)), (1, .int a1), (2, .ref (G.1 a2))]) hx0 hb d_Ln_givenBy_3 hl (by decide) rfl (fun ls hl => ?_)
  obtain ⟨q1, hq3, h⟩ := bnd_some h
  refine W_itr (At := fun (s0 : Int32 × Int32) => ∀ (H : Heap) (locs : List Loc) (ls : Array Slot), ZZC G s M H locs → lv_has ls 6 [(4, .int s0.2), (3, .int s0.1), (0, .ref (G.1 1)), (2, .ref (G.1 a2))] → W p l e rm_Ln_givenBy s m args below meth c H locs 0 0 Q (F0 m 5 ls [])) (Ex := fun (q0 : Int32 × Int32) => ∀ (H : Heap) (locs : List Loc) (ls : Array Slot), ZZC G s M H locs → lv_has ls 6 [(3, .int q0.1), (0, .ref (G.1 1))] → W p l e rm_Ln_givenBy s m args below meth c H locs 0 0 Q (F0 m 75 ls [])) (fun s0 x h hx => ?_) _ _ q1 hq3 (fun H locs ls hZ hl => ?_) _ _ _ hZ (lv_sub hl [0, 1, 2, 4] rfl)
  · obtain ⟨x3_5, x4_5⟩ := s0
    replace h : p_Ln_givenBy_L5 a2 M x3_5 x4_5 = some x := h
    unfold p_Ln_givenBy_L5 at h
    intro H locs ls hZ hl
    replace hZ : ZZC G s M H locs := hZ
    replace hl : lv_has ls 6 [(4, .int x4_5), (3, .int x3_5), (0, .ref (G.1 1)), (2, .ref (G.1 a2))] := hl
    refine lv_iload hx0 hb d_Ln_givenBy_5 (lv_at hl 0 rfl) ?_
    refine lv_aload_n hx0 hb d_Ln_givenBy_7 rfl (lv_at hl 2 rfl) ?_
    refine fg_Ln_nodeCount hx0 hb hts hown hZ d_Ln_givenBy_8 ?_
    refine lv_icmp_ge (tgt := 75) hx0 hb d_Ln_givenBy_11 (by decide) (fun c5_1 => ?_) (fun c5_1 => ?_)
    · replace h := (if_pos c5_1).symm.trans h
      obtain rfl := Option.some.inj h
      exact hx _ _ _ hZ (lv_sub hl [1, 2] rfl)
    · replace h := (if_neg c5_1).symm.trans h
      refine lv_aload_n hx0 hb d_Ln_givenBy_14 rfl (lv_at hl 2 rfl) ?_
      refine fg_Ln_columnOf hx0 hb hts hown hZ d_Ln_givenBy_15 ?_
      refine lv_iload_n hx0 hb d_Ln_givenBy_18 rfl (lv_at hl 1 rfl) ?_
      obtain ⟨hi5_2, h⟩ := chk_some h
      refine z_ialoadC (k := 2) hx0 hb hZ hi5_2 d_Ln_givenBy_19 ?_
      refine lv_iconst (v := (-1 : Int32)) hx0 hb d_Ln_givenBy_20 (by decide) ?_
      refine lv_icmp_eq (tgt := 75) hx0 hb d_Ln_givenBy_21 (by decide) (fun c5_3 => ?_) (fun c5_3 => ?_)
      · replace h := (if_pos c5_3).symm.trans h
        obtain rfl := Option.some.inj h
        exact hx _ _ _ hZ (lv_sub hl [1, 2] rfl)
      · replace h := (if_neg c5_3).symm.trans h
        refine lv_aload_n hx0 hb d_Ln_givenBy_24 rfl (lv_at hl 3 rfl) ?_
        refine lv_aload_n hx0 hb d_Ln_givenBy_25 rfl (lv_at hl 2 rfl) ?_
        refine fg_Ln_columnOf hx0 hb hts hown hZ d_Ln_givenBy_26 ?_
        refine lv_iload_n hx0 hb d_Ln_givenBy_29 rfl (lv_at hl 1 rfl) ?_
        obtain ⟨hi5_4, h⟩ := chk_some h
        refine z_ialoadC (k := 2) hx0 hb hZ hi5_4 d_Ln_givenBy_30 ?_
        obtain ⟨hi5_5, h⟩ := chk_some h
        refine z_ialoadC (k := a2) hx0 hb hZ hi5_5 d_Ln_givenBy_31 ?_
        refine lv_aload_n hx0 hb d_Ln_givenBy_32 rfl (lv_at hl 2 rfl) ?_
        refine fg_Ln_numberOf hx0 hb hts hown hZ d_Ln_givenBy_33 ?_
        refine lv_iload_n hx0 hb d_Ln_givenBy_36 rfl (lv_at hl 1 rfl) ?_
        obtain ⟨hi5_6, h⟩ := chk_some h
        refine z_ialoadC (k := 3) hx0 hb hZ hi5_6 d_Ln_givenBy_37 ?_
        refine lv_icmp_gt (tgt := 45) hx0 hb d_Ln_givenBy_38 (by decide) (fun c5_7 => ?_) (fun c5_7 => ?_)
        · replace h := (if_pos c5_7).symm.trans h
          refine lv_iconst (v := (0 : Int32)) hx0 hb d_Ln_givenBy_45 (by decide) ?_
          refine lv_istore (lv' := [(5, .int (0 : Int32)), (4, .int x4_5), (3, .int x3_5), (0, .ref (G.1 1)), (2, .ref (G.1 a2))]) hx0 hb d_Ln_givenBy_46 hl (by decide) rfl (fun ls hl => ?_)
          refine lv_iload hx0 hb d_Ln_givenBy_48 (lv_at hl 0 rfl) ?_
          refine lv_if_eq (tgt := 62) hx0 hb d_Ln_givenBy_50 (by decide) (fun c5_8 => ?_) (fun c5_8 => ?_)
          · refine lv_aload_n hx0 hb d_Ln_givenBy_62 rfl (lv_at hl 3 rfl) ?_
            refine fg_Ln_highOf hx0 hb hts hown hZ d_Ln_givenBy_63 ?_
            refine lv_iload_n hx0 hb d_Ln_givenBy_66 rfl (lv_at hl 2 rfl) ?_
            obtain ⟨hi5_9, h⟩ := chk_some h
            refine z_ialoadC (k := 5) hx0 hb hZ hi5_9 d_Ln_givenBy_67 ?_
            refine lv_istore_n (lv' := [(3, .int (M.1 5 (Int32.toNatClampNeg x3_5))), (5, .int (0 : Int32)), (4, .int x4_5), (0, .ref (G.1 1)), (2, .ref (G.1 a2))]) hx0 hb d_Ln_givenBy_68 rfl hl (by decide) rfl (fun ls hl => ?_)
            refine lv_iinc (v := (x4_5 + (1 : Int32))) (lv' := [(4, .int (x4_5 + (1 : Int32))), (3, .int (M.1 5 (Int32.toNatClampNeg x3_5))), (5, .int (0 : Int32)), (0, .ref (G.1 1)), (2, .ref (G.1 a2))]) hx0 hb d_Ln_givenBy_69 hl (k := 2) rfl rfl (by decide) rfl (fun ls hl => ?_)
            refine lv_goto (tgt := 5) hx0 hb d_Ln_givenBy_72 (by decide) ?_
            obtain rfl := Option.some.inj h
            exact hx _ _ _ hZ (lv_sub hl [0, 1, 3, 4] rfl)
          · exact absurd c5_8 (by decide)
        · replace h := (if_neg c5_7).symm.trans h
          refine lv_iconst (v := (1 : Int32)) hx0 hb d_Ln_givenBy_41 (by decide) ?_
          refine lv_goto (tgt := 46) hx0 hb d_Ln_givenBy_42 (by decide) ?_
          refine lv_istore (lv' := [(5, .int (1 : Int32)), (4, .int x4_5), (3, .int x3_5), (0, .ref (G.1 1)), (2, .ref (G.1 a2))]) hx0 hb d_Ln_givenBy_46 hl (by decide) rfl (fun ls hl => ?_)
          refine lv_iload hx0 hb d_Ln_givenBy_48 (lv_at hl 0 rfl) ?_
          refine lv_if_eq (tgt := 62) hx0 hb d_Ln_givenBy_50 (by decide) (fun c5_10 => ?_) (fun c5_10 => ?_)
          · exact absurd c5_10 (by decide)
          · refine lv_aload_n hx0 hb d_Ln_givenBy_53 rfl (lv_at hl 3 rfl) ?_
            refine fg_Ln_lowOf hx0 hb hts hown hZ d_Ln_givenBy_54 ?_
            refine lv_iload_n hx0 hb d_Ln_givenBy_57 rfl (lv_at hl 2 rfl) ?_
            obtain ⟨hi5_11, h⟩ := chk_some h
            refine z_ialoadC (k := 4) hx0 hb hZ hi5_11 d_Ln_givenBy_58 ?_
            refine lv_goto (tgt := 68) hx0 hb d_Ln_givenBy_59 (by decide) ?_
            refine lv_istore_n (lv' := [(3, .int (M.1 4 (Int32.toNatClampNeg x3_5))), (5, .int (1 : Int32)), (4, .int x4_5), (0, .ref (G.1 1)), (2, .ref (G.1 a2))]) hx0 hb d_Ln_givenBy_68 rfl hl (by decide) rfl (fun ls hl => ?_)
            refine lv_iinc (v := (x4_5 + (1 : Int32))) (lv' := [(4, .int (x4_5 + (1 : Int32))), (3, .int (M.1 4 (Int32.toNatClampNeg x3_5))), (5, .int (1 : Int32)), (0, .ref (G.1 1)), (2, .ref (G.1 a2))]) hx0 hb d_Ln_givenBy_69 hl (k := 2) rfl rfl (by decide) rfl (fun ls hl => ?_)
            refine lv_goto (tgt := 5) hx0 hb d_Ln_givenBy_72 (by decide) ?_
            obtain rfl := Option.some.inj h
            exact hx _ _ _ hZ (lv_sub hl [0, 1, 3, 4] rfl)
  · replace hZ : ZZC G s M H locs := hZ
    replace hl : lv_has ls 6 [(3, .int q1.1), (0, .ref (G.1 1))] := hl
    refine lv_aload_n hx0 hb d_Ln_givenBy_75 rfl (lv_at hl 1 rfl) ?_
    refine fg_Ln_numberOf hx0 hb hts hown hZ d_Ln_givenBy_76 ?_
    refine lv_iload_n hx0 hb d_Ln_givenBy_79 rfl (lv_at hl 0 rfl) ?_
    obtain ⟨hi2, h⟩ := chk_some h
    refine z_ialoadC (k := 3) hx0 hb hZ hi2 d_Ln_givenBy_80 ?_
    obtain rfl := Option.some.inj h
    exact z_iretC hx0 hb hr hZ hlocks hQ d_Ln_givenBy_81
abbrev rm_Ln_sumFor : Room := ({ frames := 1, cells := 0, slots := 0, locals := 25 } : Room)
set_option maxHeartbeats 4000000 in
set_option maxRecDepth 100000 in
theorem c_Ln_sumFor (l : Launch) (G : zG) (a1 : Nat) (M : Mem) (r : Int32) (h : p_Ln_sumFor a1 M = some r) : MetZC l G y_Ln_sumFor (Cond.code y_Ln_sumFor b_Ln_sumFor 4 (some .int) :: zws) rm_Ln_sumFor [.ref (G.1 1), .ref (G.1 a1)] M (some (.int r)) M := by
  unfold p_Ln_sumFor at h
  refine z_ofWC (lv := [(0, .ref (G.1 1)), (1, .ref (G.1 a1))]) (by decide) (Nat.le_of_ble_eq_true rfl) rfl (fun p e R s m args below meth c Q ls F hl hZ => ?_)
  obtain ⟨hx0, hb, hml, hr, hts, hown, hlocks, rfl, hQ⟩ := F
  refine lv_iconst (v := (0 : Int32)) hx0 hb d_Ln_sumFor_0 (by decide) ?_
  refine lv_istore_n (lv' := [(2, .int (0 : Int32)), (0, .ref (G.1 1)), (1, .ref (G.1 a1))]) hx0 hb d_Ln_sumFor_1 rfl hl (by decide) rfl (fun ls hl => ?_)
  refine lv_iconst (v := (0 : Int32)) hx0 hb d_Ln_sumFor_2 (by decide) ?_
  refine lv_istore_n (lv' := [(3, .int (0 : Int32)), (2, .int (0 : Int32)), (0, .ref (G.1 1)), (1, .ref (G.1 a1))]) hx0 hb d_Ln_sumFor_3 rfl hl (by decide) rfl (fun ls hl => ?_)
  obtain ⟨q1, hq3, h⟩ := bnd_some h
  refine W_itr (At := fun (s0 : Int32 × Int32) => ∀ (H : Heap) (locs : List Loc) (ls : Array Slot), ZZC G s M H locs → lv_has ls 4 [(3, .int s0.2), (2, .int s0.1), (0, .ref (G.1 1)), (1, .ref (G.1 a1))] → W p l e rm_Ln_sumFor s m args below meth c H locs 0 0 Q (F0 m 4 ls [])) (Ex := fun (q0 : Int32 × Int32) => ∀ (H : Heap) (locs : List Loc) (ls : Array Slot), ZZC G s M H locs → lv_has ls 4 [(2, .int q0.1), (0, .ref (G.1 1)), (1, .ref (G.1 a1))] → W p l e rm_Ln_sumFor s m args below meth c H locs 0 0 Q (F0 m 32 ls [])) (fun s0 x h hx => ?_) _ _ q1 hq3 (fun H locs ls hZ hl => ?_) _ _ _ hZ (lv_sub hl [0, 1, 2, 3] rfl)
  · obtain ⟨x2_4, x3_4⟩ := s0
    replace h : p_Ln_sumFor_L4 a1 M x2_4 x3_4 = some x := h
    unfold p_Ln_sumFor_L4 at h
    intro H locs ls hZ hl
    replace hZ : ZZC G s M H locs := hZ
    replace hl : lv_has ls 4 [(3, .int x3_4), (2, .int x2_4), (0, .ref (G.1 1)), (1, .ref (G.1 a1))] := hl
    refine lv_iload_n hx0 hb d_Ln_sumFor_4 rfl (lv_at hl 0 rfl) ?_
    refine lv_aload_n hx0 hb d_Ln_sumFor_5 rfl (lv_at hl 2 rfl) ?_
    refine fg_Ln_rootCount hx0 hb hts hown hZ d_Ln_sumFor_6 ?_
    refine lv_icmp_ge (tgt := 32) hx0 hb d_Ln_sumFor_9 (by decide) (fun c4_1 => ?_) (fun c4_1 => ?_)
    · replace h := (if_pos c4_1).symm.trans h
      obtain rfl := Option.some.inj h
      exact hx _ _ _ hZ (lv_sub hl [1, 2, 3] rfl)
    · replace h := (if_neg c4_1).symm.trans h
      refine lv_iload_n hx0 hb d_Ln_sumFor_12 rfl (lv_at hl 1 rfl) ?_
      refine lv_aload_n hx0 hb d_Ln_sumFor_13 rfl (lv_at hl 2 rfl) ?_
      refine lv_aload_n hx0 hb d_Ln_sumFor_14 rfl (lv_at hl 2 rfl) ?_
      refine fg_Ln_roots hx0 hb hts hown hZ d_Ln_sumFor_15 ?_
      refine lv_iload_n hx0 hb d_Ln_sumFor_18 rfl (lv_at hl 0 rfl) ?_
      obtain ⟨hi4_2, h⟩ := chk_some h
      refine z_ialoadC (k := 7) hx0 hb hZ hi4_2 d_Ln_sumFor_19 ?_
      refine lv_aload_n hx0 hb d_Ln_sumFor_20 rfl (lv_at hl 3 rfl) ?_
      obtain ⟨q4_3, hc4_4, h⟩ := bnd_some h
      refine k_Ln_Ln_givenBy [.int (M.1 7 (Int32.toNatClampNeg x3_4)), .ref (G.1 a1)] hx0 hb hml hts hown (c_Ln_givenBy l G (M.1 7 (Int32.toNatClampNeg x3_4)) a1 M q4_3 hc4_4) hZ rfl rfl ⟨Nat.le_of_ble_eq_true rfl, Nat.le_of_ble_eq_true rfl⟩ hl.1 rfl (Nat.le_of_ble_eq_true rfl) d_Ln_sumFor_21 (fun H locs hZ => ?_)
      refine lv_iadd hx0 hb d_Ln_sumFor_24 ?_
      refine lv_istore_n (lv' := [(2, .int (x2_4 + q4_3)), (3, .int x3_4), (0, .ref (G.1 1)), (1, .ref (G.1 a1))]) hx0 hb d_Ln_sumFor_25 rfl hl (by decide) rfl (fun ls hl => ?_)
      refine lv_iinc (v := (x3_4 + (1 : Int32))) (lv' := [(3, .int (x3_4 + (1 : Int32))), (2, .int (x2_4 + q4_3)), (0, .ref (G.1 1)), (1, .ref (G.1 a1))]) hx0 hb d_Ln_sumFor_26 hl (k := 1) rfl rfl (by decide) rfl (fun ls hl => ?_)
      refine lv_goto (tgt := 4) hx0 hb d_Ln_sumFor_29 (by decide) ?_
      obtain rfl := Option.some.inj h
      exact hx _ _ _ hZ (lv_sub hl [0, 1, 2, 3] rfl)
  · replace hZ : ZZC G s M H locs := hZ
    replace hl : lv_has ls 4 [(2, .int q1.1), (0, .ref (G.1 1)), (1, .ref (G.1 a1))] := hl
    refine lv_iconst (v := (0 : Int32)) hx0 hb d_Ln_sumFor_32 (by decide) ?_
    refine lv_istore_n (lv' := [(3, .int (0 : Int32)), (2, .int q1.1), (0, .ref (G.1 1)), (1, .ref (G.1 a1))]) hx0 hb d_Ln_sumFor_33 rfl hl (by decide) rfl (fun ls hl => ?_)
    obtain ⟨q2, hq4, h⟩ := bnd_some h
    refine W_itr (At := fun (s0 : Int32 × Int32) => ∀ (H : Heap) (locs : List Loc) (ls : Array Slot), ZZC G s M H locs → lv_has ls 4 [(3, .int s0.2), (2, .int s0.1), (0, .ref (G.1 1)), (1, .ref (G.1 a1))] → W p l e rm_Ln_sumFor s m args below meth c H locs 0 0 Q (F0 m 34 ls [])) (Ex := fun (q0 : Int32 × Int32) => ∀ (H : Heap) (locs : List Loc) (ls : Array Slot), ZZC G s M H locs → lv_has ls 4 [(2, .int q0.1)] → W p l e rm_Ln_sumFor s m args below meth c H locs 0 0 Q (F0 m 59 ls [])) (fun s0 x h hx => ?_) _ _ q2 hq4 (fun H locs ls hZ hl => ?_) _ _ _ hZ (lv_sub hl [0, 1, 2, 3] rfl)
    · obtain ⟨x2_34, x3_34⟩ := s0
      replace h : p_Ln_sumFor_L34 a1 M x2_34 x3_34 = some x := h
      unfold p_Ln_sumFor_L34 at h
      intro H locs ls hZ hl
      replace hZ : ZZC G s M H locs := hZ
      replace hl : lv_has ls 4 [(3, .int x3_34), (2, .int x2_34), (0, .ref (G.1 1)), (1, .ref (G.1 a1))] := hl
      refine lv_iload_n hx0 hb d_Ln_sumFor_34 rfl (lv_at hl 0 rfl) ?_
      refine lv_bipush (v := (6 : Int32)) hx0 hb d_Ln_sumFor_35 (by decide) ?_
      refine lv_icmp_ge (tgt := 59) hx0 hb d_Ln_sumFor_37 (by decide) (fun c34_1 => ?_) (fun c34_1 => ?_)
      · replace h := (if_pos c34_1).symm.trans h
        obtain rfl := Option.some.inj h
        exact hx _ _ _ hZ (lv_sub hl [1] rfl)
      · replace h := (if_neg c34_1).symm.trans h
        refine lv_iload_n hx0 hb d_Ln_sumFor_40 rfl (lv_at hl 1 rfl) ?_
        refine lv_aload_n hx0 hb d_Ln_sumFor_41 rfl (lv_at hl 2 rfl) ?_
        refine fg_Ln_weights hx0 hb hts hown hZ d_Ln_sumFor_42 ?_
        refine lv_iload_n hx0 hb d_Ln_sumFor_45 rfl (lv_at hl 0 rfl) ?_
        obtain ⟨hi34_2, h⟩ := chk_some h
        refine z_ialoadC (k := 8) hx0 hb hZ hi34_2 d_Ln_sumFor_46 ?_
        refine lv_aload_n hx0 hb d_Ln_sumFor_47 rfl (lv_at hl 3 rfl) ?_
        refine lv_iload_n hx0 hb d_Ln_sumFor_48 rfl (lv_at hl 0 rfl) ?_
        obtain ⟨hi34_3, h⟩ := chk_some h
        refine z_ialoadC (k := a1) hx0 hb hZ hi34_3 d_Ln_sumFor_49 ?_
        refine lv_imul hx0 hb d_Ln_sumFor_50 ?_
        refine lv_iadd hx0 hb d_Ln_sumFor_51 ?_
        refine lv_istore_n (lv' := [(2, .int (x2_34 + ((M.1 8 (Int32.toNatClampNeg x3_34)) * (M.1 a1 (Int32.toNatClampNeg x3_34))))), (3, .int x3_34), (0, .ref (G.1 1)), (1, .ref (G.1 a1))]) hx0 hb d_Ln_sumFor_52 rfl hl (by decide) rfl (fun ls hl => ?_)
        refine lv_iinc (v := (x3_34 + (1 : Int32))) (lv' := [(3, .int (x3_34 + (1 : Int32))), (2, .int (x2_34 + ((M.1 8 (Int32.toNatClampNeg x3_34)) * (M.1 a1 (Int32.toNatClampNeg x3_34))))), (0, .ref (G.1 1)), (1, .ref (G.1 a1))]) hx0 hb d_Ln_sumFor_53 hl (k := 1) rfl rfl (by decide) rfl (fun ls hl => ?_)
        refine lv_goto (tgt := 34) hx0 hb d_Ln_sumFor_56 (by decide) ?_
        obtain rfl := Option.some.inj h
        exact hx _ _ _ hZ (lv_sub hl [0, 1, 2, 3] rfl)
    · replace hZ : ZZC G s M H locs := hZ
      replace hl : lv_has ls 4 [(2, .int q2.1)] := hl
      refine lv_iload_n hx0 hb d_Ln_sumFor_59 rfl (lv_at hl 0 rfl) ?_
      obtain rfl := Option.some.inj h
      exact z_iretC hx0 hb hr hZ hlocks hQ d_Ln_sumFor_60
abbrev rm_Ln_peakOf : Room := ({ frames := 1, cells := 0, slots := 0, locals := 32 } : Room)
set_option maxHeartbeats 4000000 in
set_option maxRecDepth 100000 in
theorem c_Ln_peakOf (l : Launch) (G : zG) (a1 : Int32) (a2 : Nat) (a3 : Nat) (M : Mem) (r : Int32) (h : p_Ln_peakOf a1 a2 a3 M = some r) : MetZC l G y_Ln_peakOf (Cond.code y_Ln_peakOf b_Ln_peakOf 5 (some .int) :: zws) rm_Ln_peakOf [.ref (G.1 1), .int a1, .ref (G.1 a2), .ref (G.1 a3)] M (some (.int r)) M := by
  unfold p_Ln_peakOf at h
  refine z_ofWC (lv := [(0, .ref (G.1 1)), (1, .int a1), (2, .ref (G.1 a2)), (3, .ref (G.1 a3))]) (by decide) (Nat.le_of_ble_eq_true rfl) rfl (fun p e R s m args below meth c Q ls F hl hZ => ?_)
  obtain ⟨hx0, hb, hml, hr, hts, hown, hlocks, rfl, hQ⟩ := F
  refine lv_aload_n hx0 hb d_Ln_peakOf_0 rfl (lv_at hl 0 rfl) ?_
  refine fg_Ln_columnOf hx0 hb hts hown hZ d_Ln_peakOf_1 ?_
  refine lv_iload_n hx0 hb d_Ln_peakOf_4 rfl (lv_at hl 1 rfl) ?_
  obtain ⟨hi1, h⟩ := chk_some h
  refine z_ialoadC (k := 2) hx0 hb hZ hi1 d_Ln_peakOf_5 ?_
  refine lv_istore (lv' := [(4, .int (M.1 2 (Int32.toNatClampNeg a1))), (0, .ref (G.1 1)), (1, .int a1), (2, .ref (G.1 a2)), (3, .ref (G.1 a3))]) hx0 hb d_Ln_peakOf_6 hl (by decide) rfl (fun ls hl => ?_)
  refine lv_iload hx0 hb d_Ln_peakOf_8 (lv_at hl 0 rfl) ?_
  refine lv_iconst (v := (-1 : Int32)) hx0 hb d_Ln_peakOf_10 (by decide) ?_
  refine lv_icmp_ne (tgt := 21) hx0 hb d_Ln_peakOf_11 (by decide) (fun c2 => ?_) (fun c2 => ?_)
  · replace h := (if_neg c2).symm.trans h
    refine lv_aload_n hx0 hb d_Ln_peakOf_21 rfl (lv_at hl 4 rfl) ?_
    refine lv_iload hx0 hb d_Ln_peakOf_22 (lv_at hl 0 rfl) ?_
    obtain ⟨hi3, h⟩ := chk_some h
    refine z_ialoadC (k := a3) hx0 hb hZ hi3 d_Ln_peakOf_24 ?_
    refine lv_aload_n hx0 hb d_Ln_peakOf_25 rfl (lv_at hl 1 rfl) ?_
    refine fg_Ln_numberOf hx0 hb hts hown hZ d_Ln_peakOf_26 ?_
    refine lv_iload_n hx0 hb d_Ln_peakOf_29 rfl (lv_at hl 2 rfl) ?_
    obtain ⟨hi4, h⟩ := chk_some h
    refine z_ialoadC (k := 3) hx0 hb hZ hi4 d_Ln_peakOf_30 ?_
    refine lv_icmp_gt (tgt := 46) hx0 hb d_Ln_peakOf_31 (by decide) (fun c5 => ?_) (fun c5 => ?_)
    · replace h := (if_pos c5).symm.trans h
      refine lv_aload_n hx0 hb d_Ln_peakOf_46 rfl (lv_at hl 3 rfl) ?_
      refine lv_iload hx0 hb d_Ln_peakOf_47 (lv_at hl 0 rfl) ?_
      obtain ⟨hi6, h⟩ := chk_some h
      refine z_ialoadC (k := a2) hx0 hb hZ hi6 d_Ln_peakOf_49 ?_
      refine lv_aload_n hx0 hb d_Ln_peakOf_50 rfl (lv_at hl 1 rfl) ?_
      refine fg_Ln_numberOf hx0 hb hts hown hZ d_Ln_peakOf_51 ?_
      refine lv_iload_n hx0 hb d_Ln_peakOf_54 rfl (lv_at hl 2 rfl) ?_
      obtain ⟨hi7, h⟩ := chk_some h
      refine z_ialoadC (k := 3) hx0 hb hZ hi7 d_Ln_peakOf_55 ?_
      refine lv_icmp_le (tgt := 71) hx0 hb d_Ln_peakOf_56 (by decide) (fun c8 => ?_) (fun c8 => ?_)
      · replace h := (if_pos c8).symm.trans h
        refine lv_aload_n hx0 hb d_Ln_peakOf_71 rfl (lv_at hl 1 rfl) ?_
        refine fg_Ln_peaks hx0 hb hts hown hZ d_Ln_peakOf_72 ?_
        refine lv_aload_n hx0 hb d_Ln_peakOf_75 rfl (lv_at hl 1 rfl) ?_
        refine fg_Ln_lowOf hx0 hb hts hown hZ d_Ln_peakOf_76 ?_
        refine lv_iload_n hx0 hb d_Ln_peakOf_79 rfl (lv_at hl 2 rfl) ?_
        obtain ⟨hi9, h⟩ := chk_some h
        refine z_ialoadC (k := 4) hx0 hb hZ hi9 d_Ln_peakOf_80 ?_
        obtain ⟨hi10, h⟩ := chk_some h
        refine z_ialoadC (k := 6) hx0 hb hZ hi10 d_Ln_peakOf_81 ?_
        refine lv_aload_n hx0 hb d_Ln_peakOf_82 rfl (lv_at hl 1 rfl) ?_
        refine fg_Ln_peaks hx0 hb hts hown hZ d_Ln_peakOf_83 ?_
        refine lv_aload_n hx0 hb d_Ln_peakOf_86 rfl (lv_at hl 1 rfl) ?_
        refine fg_Ln_highOf hx0 hb hts hown hZ d_Ln_peakOf_87 ?_
        refine lv_iload_n hx0 hb d_Ln_peakOf_90 rfl (lv_at hl 2 rfl) ?_
        obtain ⟨hi11, h⟩ := chk_some h
        refine z_ialoadC (k := 5) hx0 hb hZ hi11 d_Ln_peakOf_91 ?_
        obtain ⟨hi12, h⟩ := chk_some h
        refine z_ialoadC (k := 6) hx0 hb hZ hi12 d_Ln_peakOf_92 ?_
        refine m_max_Ln hx0 hb hml hts hown hl ⟨Nat.le_of_ble_eq_true rfl, Nat.le_of_ble_eq_true rfl⟩ (Nat.le_of_ble_eq_true rfl) d_Ln_peakOf_93 ?_
        obtain rfl := Option.some.inj h
        exact z_iretC hx0 hb hr hZ hlocks hQ d_Ln_peakOf_96
      · replace h := (if_neg c8).symm.trans h
        refine lv_aload_n hx0 hb d_Ln_peakOf_59 rfl (lv_at hl 1 rfl) ?_
        refine fg_Ln_peaks hx0 hb hts hown hZ d_Ln_peakOf_60 ?_
        refine lv_aload_n hx0 hb d_Ln_peakOf_63 rfl (lv_at hl 1 rfl) ?_
        refine fg_Ln_highOf hx0 hb hts hown hZ d_Ln_peakOf_64 ?_
        refine lv_iload_n hx0 hb d_Ln_peakOf_67 rfl (lv_at hl 2 rfl) ?_
        obtain ⟨hi13, h⟩ := chk_some h
        refine z_ialoadC (k := 5) hx0 hb hZ hi13 d_Ln_peakOf_68 ?_
        obtain ⟨hi14, h⟩ := chk_some h
        refine z_ialoadC (k := 6) hx0 hb hZ hi14 d_Ln_peakOf_69 ?_
        obtain rfl := Option.some.inj h
        exact z_iretC hx0 hb hr hZ hlocks hQ d_Ln_peakOf_70
    · replace h := (if_neg c5).symm.trans h
      refine lv_aload_n hx0 hb d_Ln_peakOf_34 rfl (lv_at hl 1 rfl) ?_
      refine fg_Ln_peaks hx0 hb hts hown hZ d_Ln_peakOf_35 ?_
      refine lv_aload_n hx0 hb d_Ln_peakOf_38 rfl (lv_at hl 1 rfl) ?_
      refine fg_Ln_lowOf hx0 hb hts hown hZ d_Ln_peakOf_39 ?_
      refine lv_iload_n hx0 hb d_Ln_peakOf_42 rfl (lv_at hl 2 rfl) ?_
      obtain ⟨hi15, h⟩ := chk_some h
      refine z_ialoadC (k := 4) hx0 hb hZ hi15 d_Ln_peakOf_43 ?_
      obtain ⟨hi16, h⟩ := chk_some h
      refine z_ialoadC (k := 6) hx0 hb hZ hi16 d_Ln_peakOf_44 ?_
      obtain rfl := Option.some.inj h
      exact z_iretC hx0 hb hr hZ hlocks hQ d_Ln_peakOf_45
  · replace h := (if_pos c2).symm.trans h
    refine lv_aload_n hx0 hb d_Ln_peakOf_14 rfl (lv_at hl 1 rfl) ?_
    refine fg_Ln_numberOf hx0 hb hts hown hZ d_Ln_peakOf_15 ?_
    refine lv_iload_n hx0 hb d_Ln_peakOf_18 rfl (lv_at hl 2 rfl) ?_
    obtain ⟨hi17, h⟩ := chk_some h
    refine z_ialoadC (k := 3) hx0 hb hZ hi17 d_Ln_peakOf_19 ?_
    obtain rfl := Option.some.inj h
    exact z_iretC hx0 hb hr hZ hlocks hQ d_Ln_peakOf_20
abbrev rm_Ln_boundWithin : Room := ({ frames := 2, cells := 0, slots := 0, locals := 56 } : Room)
set_option maxHeartbeats 4000000 in
set_option maxRecDepth 100000 in
theorem c_Ln_boundWithin (l : Launch) (G : zG) (a1 : Nat) (a2 : Nat) (M : Mem) (r : Int32 × Mem) (h : p_Ln_boundWithin a1 a2 M = some r) : MetZC l G y_Ln_boundWithin (Cond.code y_Ln_boundWithin b_Ln_boundWithin 5 (some .int) :: zws) rm_Ln_boundWithin [.ref (G.1 1), .ref (G.1 a1), .ref (G.1 a2)] M (some (.int r.1)) r.2 := by
  unfold p_Ln_boundWithin at h
  refine z_ofWC (lv := [(0, .ref (G.1 1)), (1, .ref (G.1 a1)), (2, .ref (G.1 a2))]) (by decide) (Nat.le_of_ble_eq_true rfl) rfl (fun p e R s m args below meth c Q ls F hl hZ => ?_)
  obtain ⟨hx0, hb, hml, hr, hts, hown, hlocks, rfl, hQ⟩ := F
  refine lv_iconst (v := (0 : Int32)) hx0 hb d_Ln_boundWithin_0 (by decide) ?_
  refine lv_istore_n (lv' := [(3, .int (0 : Int32)), (0, .ref (G.1 1)), (1, .ref (G.1 a1)), (2, .ref (G.1 a2))]) hx0 hb d_Ln_boundWithin_1 rfl hl (by decide) rfl (fun ls hl => ?_)
  obtain ⟨q1, hq4, h⟩ := bnd_some h
  refine W_itr (At := fun (s0 : Int32 × Mem) => ∀ (H : Heap) (locs : List Loc) (ls : Array Slot), ZZC G s s0.2 H locs → lv_has ls 5 [(3, .int s0.1), (0, .ref (G.1 1)), (1, .ref (G.1 a1)), (2, .ref (G.1 a2))] → W p l e rm_Ln_boundWithin s m args below meth c H locs 0 0 Q (F0 m 2 ls [])) (Ex := fun (q0 : Int32 × Mem) => ∀ (H : Heap) (locs : List Loc) (ls : Array Slot), ZZC G s q0.2 H locs → lv_has ls 5 [(0, .ref (G.1 1)), (1, .ref (G.1 a1)), (2, .ref (G.1 a2))] → W p l e rm_Ln_boundWithin s m args below meth c H locs 0 0 Q (F0 m 29 ls [])) (fun s0 x h hx => ?_) _ _ q1 hq4 (fun H locs ls hZ hl => ?_) _ _ _ hZ (lv_sub hl [0, 1, 2, 3] rfl)
  · obtain ⟨x3_2, M_2⟩ := s0
    replace h : p_Ln_boundWithin_L2 a1 a2 x3_2 M_2 = some x := h
    unfold p_Ln_boundWithin_L2 at h
    intro H locs ls hZ hl
    replace hZ : ZZC G s M_2 H locs := hZ
    replace hl : lv_has ls 5 [(3, .int x3_2), (0, .ref (G.1 1)), (1, .ref (G.1 a1)), (2, .ref (G.1 a2))] := hl
    refine lv_iload_n hx0 hb d_Ln_boundWithin_2 rfl (lv_at hl 0 rfl) ?_
    refine lv_aload_n hx0 hb d_Ln_boundWithin_3 rfl (lv_at hl 1 rfl) ?_
    refine fg_Ln_nodeCount hx0 hb hts hown hZ d_Ln_boundWithin_4 ?_
    refine lv_icmp_ge (tgt := 29) hx0 hb d_Ln_boundWithin_7 (by decide) (fun c2_1 => ?_) (fun c2_1 => ?_)
    · replace h := (if_pos c2_1).symm.trans h
      obtain rfl := Option.some.inj h
      exact hx _ _ _ hZ (lv_sub hl [1, 2, 3] rfl)
    · replace h := (if_neg c2_1).symm.trans h
      refine lv_aload_n hx0 hb d_Ln_boundWithin_10 rfl (lv_at hl 1 rfl) ?_
      refine fg_Ln_peaks hx0 hb hts hown hZ d_Ln_boundWithin_11 ?_
      refine lv_iload_n hx0 hb d_Ln_boundWithin_14 rfl (lv_at hl 0 rfl) ?_
      refine lv_aload_n hx0 hb d_Ln_boundWithin_15 rfl (lv_at hl 1 rfl) ?_
      refine lv_iload_n hx0 hb d_Ln_boundWithin_16 rfl (lv_at hl 0 rfl) ?_
      refine lv_aload_n hx0 hb d_Ln_boundWithin_17 rfl (lv_at hl 2 rfl) ?_
      refine lv_aload_n hx0 hb d_Ln_boundWithin_18 rfl (lv_at hl 3 rfl) ?_
      obtain ⟨q2_2, hc2_5, h⟩ := bnd_some h
      refine k_Ln_Ln_peakOf [.int x3_2, .ref (G.1 a1), .ref (G.1 a2)] hx0 hb hml hts hown (c_Ln_peakOf l G x3_2 a1 a2 M_2 q2_2 hc2_5) hZ rfl rfl ⟨Nat.le_of_ble_eq_true rfl, Nat.le_of_ble_eq_true rfl⟩ hl.1 rfl (Nat.le_of_ble_eq_true rfl) d_Ln_boundWithin_19 (fun H locs hZ => ?_)
      obtain ⟨hi2_3, h⟩ := chk_some h
      refine z_iastoreC (k := 6) hx0 hb hZ hi2_3 d_Ln_boundWithin_22 (fun H locs hZ => ?_)
      obtain ⟨m2_4, em2_4, h⟩ := nm_some h
      rw [em2_4] at hZ
      refine lv_iinc (v := (x3_2 + (1 : Int32))) (lv' := [(3, .int (x3_2 + (1 : Int32))), (0, .ref (G.1 1)), (1, .ref (G.1 a1)), (2, .ref (G.1 a2))]) hx0 hb d_Ln_boundWithin_23 hl (k := 0) rfl rfl (by decide) rfl (fun ls hl => ?_)
      refine lv_goto (tgt := 2) hx0 hb d_Ln_boundWithin_26 (by decide) ?_
      obtain rfl := Option.some.inj h
      exact hx _ _ _ hZ (lv_sub hl [0, 1, 2, 3] rfl)
  · replace hZ : ZZC G s q1.2 H locs := hZ
    replace hl : lv_has ls 5 [(0, .ref (G.1 1)), (1, .ref (G.1 a1)), (2, .ref (G.1 a2))] := hl
    refine lv_iconst (v := (0 : Int32)) hx0 hb d_Ln_boundWithin_29 (by decide) ?_
    refine lv_istore_n (lv' := [(3, .int (0 : Int32)), (0, .ref (G.1 1)), (1, .ref (G.1 a1)), (2, .ref (G.1 a2))]) hx0 hb d_Ln_boundWithin_30 rfl hl (by decide) rfl (fun ls hl => ?_)
    refine lv_iconst (v := (0 : Int32)) hx0 hb d_Ln_boundWithin_31 (by decide) ?_
    refine lv_istore (lv' := [(4, .int (0 : Int32)), (3, .int (0 : Int32)), (0, .ref (G.1 1)), (1, .ref (G.1 a1)), (2, .ref (G.1 a2))]) hx0 hb d_Ln_boundWithin_32 hl (by decide) rfl (fun ls hl => ?_)
    obtain ⟨q2, hq5, h⟩ := bnd_some h
    refine W_itr (At := fun (s0 : Int32 × Int32) => ∀ (H : Heap) (locs : List Loc) (ls : Array Slot), ZZC G s q1.2 H locs → lv_has ls 5 [(4, .int s0.2), (3, .int s0.1), (0, .ref (G.1 1)), (1, .ref (G.1 a1)), (2, .ref (G.1 a2))] → W p l e rm_Ln_boundWithin s m args below meth c H locs 0 0 Q (F0 m 34 ls [])) (Ex := fun (q0 : Int32 × Int32) => ∀ (H : Heap) (locs : List Loc) (ls : Array Slot), ZZC G s q1.2 H locs → lv_has ls 5 [(3, .int q0.1), (0, .ref (G.1 1)), (1, .ref (G.1 a1)), (2, .ref (G.1 a2))] → W p l e rm_Ln_boundWithin s m args below meth c H locs 0 0 Q (F0 m 64 ls [])) (fun s0 x h hx => ?_) _ _ q2 hq5 (fun H locs ls hZ hl => ?_) _ _ _ hZ (lv_sub hl [0, 1, 2, 3, 4] rfl)
    · obtain ⟨x3_34, x4_34⟩ := s0
      replace h : p_Ln_boundWithin_L34 q1 x3_34 x4_34 = some x := h
      unfold p_Ln_boundWithin_L34 at h
      intro H locs ls hZ hl
      replace hZ : ZZC G s q1.2 H locs := hZ
      replace hl : lv_has ls 5 [(4, .int x4_34), (3, .int x3_34), (0, .ref (G.1 1)), (1, .ref (G.1 a1)), (2, .ref (G.1 a2))] := hl
      refine lv_iload hx0 hb d_Ln_boundWithin_34 (lv_at hl 0 rfl) ?_
      refine lv_aload_n hx0 hb d_Ln_boundWithin_36 rfl (lv_at hl 2 rfl) ?_
      refine fg_Ln_rootCount hx0 hb hts hown hZ d_Ln_boundWithin_37 ?_
      refine lv_icmp_ge (tgt := 64) hx0 hb d_Ln_boundWithin_40 (by decide) (fun c34_1 => ?_) (fun c34_1 => ?_)
      · replace h := (if_pos c34_1).symm.trans h
        obtain rfl := Option.some.inj h
        exact hx _ _ _ hZ (lv_sub hl [1, 2, 3, 4] rfl)
      · replace h := (if_neg c34_1).symm.trans h
        refine lv_iload_n hx0 hb d_Ln_boundWithin_43 rfl (lv_at hl 1 rfl) ?_
        refine lv_aload_n hx0 hb d_Ln_boundWithin_44 rfl (lv_at hl 2 rfl) ?_
        refine fg_Ln_peaks hx0 hb hts hown hZ d_Ln_boundWithin_45 ?_
        refine lv_aload_n hx0 hb d_Ln_boundWithin_48 rfl (lv_at hl 2 rfl) ?_
        refine fg_Ln_roots hx0 hb hts hown hZ d_Ln_boundWithin_49 ?_
        refine lv_iload hx0 hb d_Ln_boundWithin_52 (lv_at hl 0 rfl) ?_
        obtain ⟨hi34_2, h⟩ := chk_some h
        refine z_ialoadC (k := 7) hx0 hb hZ hi34_2 d_Ln_boundWithin_54 ?_
        obtain ⟨hi34_3, h⟩ := chk_some h
        refine z_ialoadC (k := 6) hx0 hb hZ hi34_3 d_Ln_boundWithin_55 ?_
        refine lv_iadd hx0 hb d_Ln_boundWithin_56 ?_
        refine lv_istore_n (lv' := [(3, .int (x3_34 + (q1.2.1 6 (Int32.toNatClampNeg (q1.2.1 7 (Int32.toNatClampNeg x4_34)))))), (4, .int x4_34), (0, .ref (G.1 1)), (1, .ref (G.1 a1)), (2, .ref (G.1 a2))]) hx0 hb d_Ln_boundWithin_57 rfl hl (by decide) rfl (fun ls hl => ?_)
        refine lv_iinc (v := (x4_34 + (1 : Int32))) (lv' := [(4, .int (x4_34 + (1 : Int32))), (3, .int (x3_34 + (q1.2.1 6 (Int32.toNatClampNeg (q1.2.1 7 (Int32.toNatClampNeg x4_34)))))), (0, .ref (G.1 1)), (1, .ref (G.1 a1)), (2, .ref (G.1 a2))]) hx0 hb d_Ln_boundWithin_58 hl (k := 1) rfl rfl (by decide) rfl (fun ls hl => ?_)
        refine lv_goto (tgt := 34) hx0 hb d_Ln_boundWithin_61 (by decide) ?_
        obtain rfl := Option.some.inj h
        exact hx _ _ _ hZ (lv_sub hl [0, 1, 2, 3, 4] rfl)
    · replace hZ : ZZC G s q1.2 H locs := hZ
      replace hl : lv_has ls 5 [(3, .int q2.1), (0, .ref (G.1 1)), (1, .ref (G.1 a1)), (2, .ref (G.1 a2))] := hl
      refine lv_iconst (v := (0 : Int32)) hx0 hb d_Ln_boundWithin_64 (by decide) ?_
      refine lv_istore (lv' := [(4, .int (0 : Int32)), (3, .int q2.1), (0, .ref (G.1 1)), (1, .ref (G.1 a1)), (2, .ref (G.1 a2))]) hx0 hb d_Ln_boundWithin_65 hl (by decide) rfl (fun ls hl => ?_)
      obtain ⟨q3, hq6, h⟩ := bnd_some h
      refine W_itr (At := fun (s0 : Int32 × Int32) => ∀ (H : Heap) (locs : List Loc) (ls : Array Slot), ZZC G s q1.2 H locs → lv_has ls 5 [(4, .int s0.2), (3, .int s0.1), (0, .ref (G.1 1)), (1, .ref (G.1 a1)), (2, .ref (G.1 a2))] → W p l e rm_Ln_boundWithin s m args below meth c H locs 0 0 Q (F0 m 67 ls [])) (Ex := fun (q0 : Int32 × Int32) => ∀ (H : Heap) (locs : List Loc) (ls : Array Slot), ZZC G s q1.2 H locs → lv_has ls 5 [(3, .int q0.1)] → W p l e rm_Ln_boundWithin s m args below meth c H locs 0 0 Q (F0 m 110 ls [])) (fun s0 x h hx => ?_) _ _ q3 hq6 (fun H locs ls hZ hl => ?_) _ _ _ hZ (lv_sub hl [0, 1, 2, 3, 4] rfl)
      · obtain ⟨x3_67, x4_67⟩ := s0
        replace h : p_Ln_boundWithin_L67 a1 a2 q1 x3_67 x4_67 = some x := h
        unfold p_Ln_boundWithin_L67 at h
        intro H locs ls hZ hl
        replace hZ : ZZC G s q1.2 H locs := hZ
        replace hl : lv_has ls 5 [(4, .int x4_67), (3, .int x3_67), (0, .ref (G.1 1)), (1, .ref (G.1 a1)), (2, .ref (G.1 a2))] := hl
        refine lv_iload hx0 hb d_Ln_boundWithin_67 (lv_at hl 0 rfl) ?_
        refine lv_bipush (v := (6 : Int32)) hx0 hb d_Ln_boundWithin_69 (by decide) ?_
        refine lv_icmp_ge (tgt := 110) hx0 hb d_Ln_boundWithin_71 (by decide) (fun c67_1 => ?_) (fun c67_1 => ?_)
        · replace h := (if_pos c67_1).symm.trans h
          obtain rfl := Option.some.inj h
          exact hx _ _ _ hZ (lv_sub hl [1] rfl)
        · replace h := (if_neg c67_1).symm.trans h
          refine lv_iload_n hx0 hb d_Ln_boundWithin_74 rfl (lv_at hl 1 rfl) ?_
          refine lv_aload_n hx0 hb d_Ln_boundWithin_75 rfl (lv_at hl 2 rfl) ?_
          refine fg_Ln_weights hx0 hb hts hown hZ d_Ln_boundWithin_76 ?_
          refine lv_iload hx0 hb d_Ln_boundWithin_79 (lv_at hl 0 rfl) ?_
          obtain ⟨hi67_2, h⟩ := chk_some h
          refine z_ialoadC (k := 8) hx0 hb hZ hi67_2 d_Ln_boundWithin_81 ?_
          refine lv_aload_n hx0 hb d_Ln_boundWithin_82 rfl (lv_at hl 3 rfl) ?_
          refine lv_iload hx0 hb d_Ln_boundWithin_83 (lv_at hl 0 rfl) ?_
          obtain ⟨hi67_3, h⟩ := chk_some h
          refine z_ialoadC (k := a1) hx0 hb hZ hi67_3 d_Ln_boundWithin_85 ?_
          refine lv_imul hx0 hb d_Ln_boundWithin_86 ?_
          refine lv_aload_n hx0 hb d_Ln_boundWithin_87 rfl (lv_at hl 2 rfl) ?_
          refine fg_Ln_weights hx0 hb hts hown hZ d_Ln_boundWithin_88 ?_
          refine lv_iload hx0 hb d_Ln_boundWithin_91 (lv_at hl 0 rfl) ?_
          obtain ⟨hi67_4, h⟩ := chk_some h
          refine z_ialoadC (k := 8) hx0 hb hZ hi67_4 d_Ln_boundWithin_93 ?_
          refine lv_aload_n hx0 hb d_Ln_boundWithin_94 rfl (lv_at hl 4 rfl) ?_
          refine lv_iload hx0 hb d_Ln_boundWithin_95 (lv_at hl 0 rfl) ?_
          obtain ⟨hi67_5, h⟩ := chk_some h
          refine z_ialoadC (k := a2) hx0 hb hZ hi67_5 d_Ln_boundWithin_97 ?_
          refine lv_imul hx0 hb d_Ln_boundWithin_98 ?_
          refine m_max_Ln hx0 hb hml hts hown hl ⟨Nat.le_of_ble_eq_true rfl, Nat.le_of_ble_eq_true rfl⟩ (Nat.le_of_ble_eq_true rfl) d_Ln_boundWithin_99 ?_
          refine lv_iadd hx0 hb d_Ln_boundWithin_102 ?_
          refine lv_istore_n (lv' := [(3, .int (x3_67 + (if ((q1.2.1 8 (Int32.toNatClampNeg x4_67)) * (q1.2.1 a1 (Int32.toNatClampNeg x4_67))) < ((q1.2.1 8 (Int32.toNatClampNeg x4_67)) * (q1.2.1 a2 (Int32.toNatClampNeg x4_67))) then ((q1.2.1 8 (Int32.toNatClampNeg x4_67)) * (q1.2.1 a2 (Int32.toNatClampNeg x4_67))) else ((q1.2.1 8 (Int32.toNatClampNeg x4_67)) * (q1.2.1 a1 (Int32.toNatClampNeg x4_67)))))), (4, .int x4_67), (0, .ref (G.1 1)), (1, .ref (G.1 a1)), (2, .ref (G.1 a2))]) hx0 hb d_Ln_boundWithin_103 rfl hl (by decide) rfl (fun ls hl => ?_)
          refine lv_iinc (v := (x4_67 + (1 : Int32))) (lv' := [(4, .int (x4_67 + (1 : Int32))), (3, .int (x3_67 + (if ((q1.2.1 8 (Int32.toNatClampNeg x4_67)) * (q1.2.1 a1 (Int32.toNatClampNeg x4_67))) < ((q1.2.1 8 (Int32.toNatClampNeg x4_67)) * (q1.2.1 a2 (Int32.toNatClampNeg x4_67))) then ((q1.2.1 8 (Int32.toNatClampNeg x4_67)) * (q1.2.1 a2 (Int32.toNatClampNeg x4_67))) else ((q1.2.1 8 (Int32.toNatClampNeg x4_67)) * (q1.2.1 a1 (Int32.toNatClampNeg x4_67)))))), (0, .ref (G.1 1)), (1, .ref (G.1 a1)), (2, .ref (G.1 a2))]) hx0 hb d_Ln_boundWithin_104 hl (k := 1) rfl rfl (by decide) rfl (fun ls hl => ?_)
          refine lv_goto (tgt := 67) hx0 hb d_Ln_boundWithin_107 (by decide) ?_
          obtain rfl := Option.some.inj h
          exact hx _ _ _ hZ (lv_sub hl [0, 1, 2, 3, 4] rfl)
      · replace hZ : ZZC G s q1.2 H locs := hZ
        replace hl : lv_has ls 5 [(3, .int q3.1)] := hl
        refine lv_iload_n hx0 hb d_Ln_boundWithin_110 rfl (lv_at hl 0 rfl) ?_
        obtain rfl := Option.some.inj h
        exact z_iretC hx0 hb hr hZ hlocks hQ d_Ln_boundWithin_111
abbrev rm_Rw_empty : Room := ({ frames := 0, cells := 0, slots := 0, locals := 0 } : Room)
set_option maxHeartbeats 4000000 in
set_option maxRecDepth 100000 in
theorem c_Rw_empty (l : Launch) (G : zG) (a0 : Nat) (M : Mem) (r : Mem) (h : p_Rw_empty a0 M = some r) : MetZC l G y_Rw_empty (Cond.code y_Rw_empty b_Rw_empty 2 none :: zws) rm_Rw_empty [.ref (G.1 a0)] M none r := by
  unfold p_Rw_empty at h
  refine z_ofWC (lv := [(0, .ref (G.1 a0))]) (by decide) (Nat.le_of_ble_eq_true rfl) rfl (fun p e R s m args below meth c Q ls F hl hZ => ?_)
  obtain ⟨hx0, hb, hml, hr, hts, hown, hlocks, rfl, hQ⟩ := F
  refine lv_iconst (v := (0 : Int32)) hx0 hb d_Rw_empty_0 (by decide) ?_
  refine lv_istore_n (lv' := [(1, .int (0 : Int32)), (0, .ref (G.1 a0))]) hx0 hb d_Rw_empty_1 rfl hl (by decide) rfl (fun ls hl => ?_)
  obtain ⟨q1, hq2, h⟩ := bnd_some h
  refine W_itr (At := fun (s0 : Int32 × Mem) => ∀ (H : Heap) (locs : List Loc) (ls : Array Slot), ZZC G s s0.2 H locs → lv_has ls 2 [(1, .int s0.1), (0, .ref (G.1 a0))] → W p l e rm_Rw_empty s m args below meth c H locs 0 0 Q (F0 m 2 ls [])) (Ex := fun (q0 : Int32 × Mem) => ∀ (H : Heap) (locs : List Loc) (ls : Array Slot), ZZC G s q0.2 H locs → lv_has ls 2 [] → W p l e rm_Rw_empty s m args below meth c H locs 0 0 Q (F0 m 18 ls [])) (fun s0 x h hx => ?_) _ _ q1 hq2 (fun H locs ls hZ hl => ?_) _ _ _ hZ (lv_sub hl [0, 1] rfl)
  · obtain ⟨x1_2, M_2⟩ := s0
    replace h : p_Rw_empty_L2 a0 x1_2 M_2 = some x := h
    unfold p_Rw_empty_L2 at h
    intro H locs ls hZ hl
    replace hZ : ZZC G s M_2 H locs := hZ
    replace hl : lv_has ls 2 [(1, .int x1_2), (0, .ref (G.1 a0))] := hl
    refine lv_iload_n hx0 hb d_Rw_empty_2 rfl (lv_at hl 0 rfl) ?_
    refine lv_aload_n hx0 hb d_Rw_empty_3 rfl (lv_at hl 1 rfl) ?_
    obtain ⟨hi2_1, h⟩ := chk_some h
    refine z_alenC (k := a0) hx0 hb hZ (of_decide_eq_true hi2_1) d_Rw_empty_4 ?_
    refine lv_icmp_ge (tgt := 18) hx0 hb d_Rw_empty_5 (by decide) (fun c2_2 => ?_) (fun c2_2 => ?_)
    · replace h := (if_pos c2_2).symm.trans h
      obtain rfl := Option.some.inj h
      exact hx _ _ _ hZ (lv_sub hl [] rfl)
    · replace h := (if_neg c2_2).symm.trans h
      refine lv_aload_n hx0 hb d_Rw_empty_8 rfl (lv_at hl 1 rfl) ?_
      refine lv_iload_n hx0 hb d_Rw_empty_9 rfl (lv_at hl 0 rfl) ?_
      refine lv_iconst (v := (0 : Int32)) hx0 hb d_Rw_empty_10 (by decide) ?_
      obtain ⟨hi2_3, h⟩ := chk_some h
      refine z_iastoreC (k := a0) hx0 hb hZ hi2_3 d_Rw_empty_11 (fun H locs hZ => ?_)
      obtain ⟨m2_4, em2_4, h⟩ := nm_some h
      rw [em2_4] at hZ
      refine lv_iinc (v := (x1_2 + (1 : Int32))) (lv' := [(1, .int (x1_2 + (1 : Int32))), (0, .ref (G.1 a0))]) hx0 hb d_Rw_empty_12 hl (k := 0) rfl rfl (by decide) rfl (fun ls hl => ?_)
      refine lv_goto (tgt := 2) hx0 hb d_Rw_empty_15 (by decide) ?_
      obtain rfl := Option.some.inj h
      exact hx _ _ _ hZ (lv_sub hl [0, 1] rfl)
  · replace hZ : ZZC G s q1.2 H locs := hZ
    replace hl : lv_has ls 2 [] := hl
    obtain rfl := Option.some.inj h
    exact z_vretC hx0 hb hr hZ hlocks hQ d_Rw_empty_18
abbrev rm_Rw_forget : Room := ({ frames := 1, cells := 0, slots := 0, locals := 21 } : Room)
set_option maxHeartbeats 4000000 in
set_option maxRecDepth 100000 in
theorem c_Rw_forget (l : Launch) (G : zG)  (M : Mem) (r : Mem) (h : p_Rw_forget  M = some r) : MetZC l G y_Rw_forget (Cond.code y_Rw_forget b_Rw_forget 1 none :: zws) rm_Rw_forget [.ref (G.1 9)] M none r := by
  unfold p_Rw_forget at h
  refine z_ofWC (lv := [(0, .ref (G.1 9))]) (by decide) (Nat.le_of_ble_eq_true rfl) rfl (fun p e R s m args below meth c Q ls F hl hZ => ?_)
  obtain ⟨hx0, hb, hml, hr, hts, hown, hlocks, rfl, hQ⟩ := F
  refine lv_aload_n hx0 hb d_Rw_forget_0 rfl (lv_at hl 0 rfl) ?_
  refine fg_Rw_looked hx0 hb hts hown hZ d_Rw_forget_1 ?_
  obtain ⟨q1, hc3, h⟩ := bnd_some h
  refine k_Rw_Rw_empty [.ref (G.1 10)] hx0 hb hml hts hown (c_Rw_empty l G 10 M q1 hc3) hZ rfl rfl ⟨Nat.le_of_ble_eq_true rfl, Nat.le_of_ble_eq_true rfl⟩ hl.1 rfl (Nat.le_of_ble_eq_true rfl) d_Rw_forget_4 (fun H locs hZ => ?_)
  refine lv_aload_n hx0 hb d_Rw_forget_7 rfl (lv_at hl 0 rfl) ?_
  refine lv_iconst (v := (0 : Int32)) hx0 hb d_Rw_forget_8 (by decide) ?_
  refine fp_Rw_count hx0 hb hts hown hZ d_Rw_forget_9 (fun H locs hZ => ?_)
  obtain ⟨m2, em2, h⟩ := nm_some h
  rw [em2] at hZ
  obtain rfl := Option.some.inj h
  exact z_vretC hx0 hb hr hZ hlocks hQ d_Rw_forget_12
abbrev rm_Rw_addRow : Room := ({ frames := 1, cells := 0, slots := 0, locals := 21 } : Room)
set_option maxHeartbeats 4000000 in
set_option maxRecDepth 100000 in
theorem c_Rw_addRow (l : Launch) (G : zG)  (M : Mem) (r : Int32 × Mem) (h : p_Rw_addRow  M = some r) : MetZC l G y_Rw_addRow (Cond.code y_Rw_addRow b_Rw_addRow 1 (some .int) :: zws) rm_Rw_addRow [.ref (G.1 9)] M (some (.int r.1)) r.2 := by
  unfold p_Rw_addRow at h
  refine z_ofWC (lv := [(0, .ref (G.1 9))]) (by decide) (Nat.le_of_ble_eq_true rfl) rfl (fun p e R s m args below meth c Q ls F hl hZ => ?_)
  obtain ⟨hx0, hb, hml, hr, hts, hown, hlocks, rfl, hQ⟩ := F
  refine lv_aload_n hx0 hb d_Rw_addRow_0 rfl (lv_at hl 0 rfl) ?_
  refine fg_Rw_count hx0 hb hts hown hZ d_Rw_addRow_1 ?_
  refine lv_iconst (v := (5 : Int32)) hx0 hb d_Rw_addRow_4 (by decide) ?_
  refine lv_icmp_lt (tgt := 11) hx0 hb d_Rw_addRow_5 (by decide) (fun c1 => ?_) (fun c1 => ?_)
  · replace h := (if_pos c1).symm.trans h
    refine lv_aload_n hx0 hb d_Rw_addRow_11 rfl (lv_at hl 0 rfl) ?_
    refine fg_Rw_behind hx0 hb hts hown hZ d_Rw_addRow_12 ?_
    refine lv_aload_n hx0 hb d_Rw_addRow_15 rfl (lv_at hl 0 rfl) ?_
    refine fg_Rw_count hx0 hb hts hown hZ d_Rw_addRow_16 ?_
    obtain ⟨hi2, h⟩ := chk_some h
    refine z_aaload_C11 hx0 hb hZ hi2 d_Rw_addRow_19 ?_
    obtain ⟨q3, hc5, h⟩ := bnd_some h
    refine k_Rw_Rw_empty [.ref (G.1 (12 + Int32.toNatClampNeg (M.1 9 2)))] hx0 hb hml hts hown (c_Rw_empty l G (12 + Int32.toNatClampNeg (M.1 9 2)) M q3 hc5) hZ rfl rfl ⟨Nat.le_of_ble_eq_true rfl, Nat.le_of_ble_eq_true rfl⟩ hl.1 rfl (Nat.le_of_ble_eq_true rfl) d_Rw_addRow_20 (fun H locs hZ => ?_)
    refine lv_aload_n hx0 hb d_Rw_addRow_23 rfl (lv_at hl 0 rfl) ?_
    refine lv_dup hx0 hb d_Rw_addRow_24 rfl ?_
    refine fg_Rw_count hx0 hb hts hown hZ d_Rw_addRow_25 ?_
    refine lv_iconst (v := (1 : Int32)) hx0 hb d_Rw_addRow_28 (by decide) ?_
    refine lv_iadd hx0 hb d_Rw_addRow_29 ?_
    refine fp_Rw_count hx0 hb hts hown hZ d_Rw_addRow_30 (fun H locs hZ => ?_)
    obtain ⟨m4, em4, h⟩ := nm_some h
    rw [em4] at hZ
    refine lv_aload_n hx0 hb d_Rw_addRow_33 rfl (lv_at hl 0 rfl) ?_
    refine fg_Rw_count hx0 hb hts hown hZ d_Rw_addRow_34 ?_
    refine lv_iconst (v := (1 : Int32)) hx0 hb d_Rw_addRow_37 (by decide) ?_
    refine lv_isub hx0 hb d_Rw_addRow_38 ?_
    obtain rfl := Option.some.inj h
    exact z_iretC hx0 hb hr hZ hlocks hQ d_Rw_addRow_39
  · replace h := (if_neg c1).symm.trans h
    refine lv_bipush (v := (-4 : Int32)) hx0 hb d_Rw_addRow_8 (by decide) ?_
    obtain rfl := Option.some.inj h
    exact z_iretC hx0 hb hr hZ hlocks hQ d_Rw_addRow_10
abbrev rm_Rw_has : Room := ({ frames := 0, cells := 0, slots := 0, locals := 0 } : Room)
set_option maxHeartbeats 4000000 in
set_option maxRecDepth 100000 in
theorem c_Rw_has (l : Launch) (G : zG) (a1 : Int32) (M : Mem) (r : Int32) (h : p_Rw_has a1 M = some r) : MetZC l G y_Rw_has (Cond.code y_Rw_has b_Rw_has 2 (some .boolean) :: zws) rm_Rw_has [.ref (G.1 9), .int a1] M (some (.int r)) M := by
  unfold p_Rw_has at h
  refine z_ofWC (lv := [(0, .ref (G.1 9)), (1, .int a1)]) (by decide) (Nat.le_of_ble_eq_true rfl) rfl (fun p e R s m args below meth c Q ls F hl hZ => ?_)
  obtain ⟨hx0, hb, hml, hr, hts, hown, hlocks, rfl, hQ⟩ := F
  refine lv_iload_n hx0 hb d_Rw_has_0 rfl (lv_at hl 1 rfl) ?_
  refine lv_iconst (v := (-1 : Int32)) hx0 hb d_Rw_has_1 (by decide) ?_
  refine lv_icmp_lt (tgt := 17) hx0 hb d_Rw_has_2 (by decide) (fun c1 => ?_) (fun c1 => ?_)
  · replace h := (if_pos c1).symm.trans h
    refine lv_iconst (v := (0 : Int32)) hx0 hb d_Rw_has_17 (by decide) ?_
    obtain rfl := Option.some.inj h
    exact z_zretC hx0 hb hr hZ hlocks hQ rfl d_Rw_has_18
  · replace h := (if_neg c1).symm.trans h
    refine lv_iload_n hx0 hb d_Rw_has_5 rfl (lv_at hl 1 rfl) ?_
    refine lv_aload_n hx0 hb d_Rw_has_6 rfl (lv_at hl 0 rfl) ?_
    refine fg_Rw_count hx0 hb hts hown hZ d_Rw_has_7 ?_
    refine lv_icmp_ge (tgt := 17) hx0 hb d_Rw_has_10 (by decide) (fun c2 => ?_) (fun c2 => ?_)
    · replace h := (if_pos c2).symm.trans h
      refine lv_iconst (v := (0 : Int32)) hx0 hb d_Rw_has_17 (by decide) ?_
      obtain rfl := Option.some.inj h
      exact z_zretC hx0 hb hr hZ hlocks hQ rfl d_Rw_has_18
    · replace h := (if_neg c2).symm.trans h
      refine lv_iconst (v := (1 : Int32)) hx0 hb d_Rw_has_13 (by decide) ?_
      refine lv_goto (tgt := 18) hx0 hb d_Rw_has_14 (by decide) ?_
      obtain rfl := Option.some.inj h
      exact z_zretC hx0 hb hr hZ hlocks hQ rfl d_Rw_has_18
abbrev rm_Rw_at : Room := ({ frames := 0, cells := 0, slots := 0, locals := 0 } : Room)
set_option maxHeartbeats 4000000 in
set_option maxRecDepth 100000 in
theorem c_Rw_at (l : Launch) (G : zG) (a1 : Int32) (M : Mem) (r : Nat) (h : p_Rw_at a1 M = some r) : MetZC l G y_Rw_at (Cond.code y_Rw_at b_Rw_at 2 (some (.array .int)) :: zws) rm_Rw_at [.ref (G.1 9), .int a1] M (some (.ref (G.1 r))) M := by
  unfold p_Rw_at at h
  refine z_ofWC (lv := [(0, .ref (G.1 9)), (1, .int a1)]) (by decide) (Nat.le_of_ble_eq_true rfl) rfl (fun p e R s m args below meth c Q ls F hl hZ => ?_)
  obtain ⟨hx0, hb, hml, hr, hts, hown, hlocks, rfl, hQ⟩ := F
  refine lv_iload_n hx0 hb d_Rw_at_0 rfl (lv_at hl 1 rfl) ?_
  refine lv_if_lt (tgt := 18) hx0 hb d_Rw_at_1 (by decide) (fun c1 => ?_) (fun c1 => ?_)
  · replace h := (if_pos c1).symm.trans h
    refine lv_aload_n hx0 hb d_Rw_at_18 rfl (lv_at hl 0 rfl) ?_
    refine fg_Rw_looked hx0 hb hts hown hZ d_Rw_at_19 ?_
    obtain rfl := Option.some.inj h
    exact z_aretC hx0 hb hr hZ hlocks hQ d_Rw_at_22
  · replace h := (if_neg c1).symm.trans h
    refine lv_iload_n hx0 hb d_Rw_at_4 rfl (lv_at hl 1 rfl) ?_
    refine lv_iconst (v := (5 : Int32)) hx0 hb d_Rw_at_5 (by decide) ?_
    refine lv_icmp_ge (tgt := 18) hx0 hb d_Rw_at_6 (by decide) (fun c2 => ?_) (fun c2 => ?_)
    · replace h := (if_pos c2).symm.trans h
      refine lv_aload_n hx0 hb d_Rw_at_18 rfl (lv_at hl 0 rfl) ?_
      refine fg_Rw_looked hx0 hb hts hown hZ d_Rw_at_19 ?_
      obtain rfl := Option.some.inj h
      exact z_aretC hx0 hb hr hZ hlocks hQ d_Rw_at_22
    · replace h := (if_neg c2).symm.trans h
      refine lv_aload_n hx0 hb d_Rw_at_9 rfl (lv_at hl 0 rfl) ?_
      refine fg_Rw_behind hx0 hb hts hown hZ d_Rw_at_10 ?_
      refine lv_iload_n hx0 hb d_Rw_at_13 rfl (lv_at hl 1 rfl) ?_
      obtain ⟨hi3, h⟩ := chk_some h
      refine z_aaload_C11 hx0 hb hZ hi3 d_Rw_at_14 ?_
      refine lv_goto (tgt := 22) hx0 hb d_Rw_at_15 (by decide) ?_
      obtain rfl := Option.some.inj h
      exact z_aretC hx0 hb hr hZ hlocks hQ d_Rw_at_22
