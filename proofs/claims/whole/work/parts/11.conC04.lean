abbrev rm_Se_costOf : Room := ({ frames := 1, cells := 0, slots := 0, locals := 32 } : Room)
set_option maxHeartbeats 4000000 in
set_option maxRecDepth 100000 in
theorem c_Se_costOf (l : Launch) (G : zG) (a1 : Int32) (a2 : Int32) (M : Mem) (r : Int32) (h : p_Se_costOf a1 a2 M = some r) : MetZC l G y_Se_costOf (Cond.code y_Se_costOf b_Se_costOf 4 (some .int) :: zws) rm_Se_costOf [.ref (G.1 24), .int a1, .int a2] M (some (.int r)) M := by
  unfold p_Se_costOf at h
  refine z_ofWC (lv := [(0, .ref (G.1 24)), (1, .int a1), (2, .int a2)]) (by decide) (Nat.le_of_ble_eq_true rfl) rfl (fun p e R s m args below meth c Q ls F hl hZ => ?_)
  obtain ⟨hx0, hb, hml, hr, hts, hown, hlocks, rfl, hQ⟩ := F
  refine lv_iload_n hx0 hb d_Se_costOf_0 rfl (lv_at hl 2 rfl) ?_
  refine lv_aload_n hx0 hb d_Se_costOf_1 rfl (lv_at hl 0 rfl) ?_
  refine fg_Se_rows hx0 hb hts hown hZ d_Se_costOf_2 ?_
  refine lv_iconst (v := (-1 : Int32)) hx0 hb d_Se_costOf_5 (by decide) ?_
  obtain ⟨q1, hc4, h⟩ := bnd_some h
  refine k_Se_Rw_at [.int (-1 : Int32)] hx0 hb hml hts hown (c_Rw_at l G (-1 : Int32) M q1 hc4) hZ rfl rfl ⟨Nat.le_of_ble_eq_true rfl, Nat.le_of_ble_eq_true rfl⟩ hl.1 rfl (Nat.le_of_ble_eq_true rfl) d_Se_costOf_6 (fun H locs hZ => ?_)
  refine lv_iload_n hx0 hb d_Se_costOf_9 rfl (lv_at hl 1 rfl) ?_
  obtain ⟨hi2, h⟩ := chk_some h
  refine z_ialoadC (k := q1) hx0 hb hZ hi2 d_Se_costOf_10 ?_
  refine lv_isub hx0 hb d_Se_costOf_11 ?_
  refine m_abs_Se hx0 hb hml hts hown hl ⟨Nat.le_of_ble_eq_true rfl, Nat.le_of_ble_eq_true rfl⟩ (Nat.le_of_ble_eq_true rfl) d_Se_costOf_12 ?_
  refine lv_istore_n (lv' := [(3, .int (if 0 ≤ (a2 - (M.1 q1 (Int32.toNatClampNeg a1))) then (a2 - (M.1 q1 (Int32.toNatClampNeg a1))) else 0 - (a2 - (M.1 q1 (Int32.toNatClampNeg a1))))), (0, .ref (G.1 24)), (1, .int a1), (2, .int a2)]) hx0 hb d_Se_costOf_15 rfl hl (by decide) rfl (fun ls hl => ?_)
  refine lv_iload_n hx0 hb d_Se_costOf_16 rfl (lv_at hl 0 rfl) ?_
  refine lv_if_ne (tgt := 24) hx0 hb d_Se_costOf_17 (by decide) (fun c3 => ?_) (fun c3 => ?_)
  · replace h := (if_neg c3).symm.trans h
    refine lv_sipush (v := (10000 : Int32)) hx0 hb d_Se_costOf_24 (by decide) ?_
    refine lv_iload_n hx0 hb d_Se_costOf_27 rfl (lv_at hl 0 rfl) ?_
    refine lv_iadd hx0 hb d_Se_costOf_28 ?_
    obtain rfl := Option.some.inj h
    exact z_iretC hx0 hb hr hZ hlocks hQ d_Se_costOf_29
  · replace h := (if_pos c3).symm.trans h
    refine lv_iconst (v := (0 : Int32)) hx0 hb d_Se_costOf_20 (by decide) ?_
    refine lv_goto (tgt := 29) hx0 hb d_Se_costOf_21 (by decide) ?_
    obtain rfl := Option.some.inj h
    exact z_iretC hx0 hb hr hZ hlocks hQ d_Se_costOf_29
abbrev rm_Se_keep : Room := ({ frames := 0, cells := 0, slots := 0, locals := 0 } : Room)
set_option maxHeartbeats 4000000 in
set_option maxRecDepth 100000 in
theorem c_Se_keep (l : Launch) (G : zG) (a1 : Int32) (M : Mem) (r : Mem) (h : p_Se_keep a1 M = some r) : MetZC l G y_Se_keep (Cond.code y_Se_keep b_Se_keep 3 none :: zws) rm_Se_keep [.ref (G.1 24), .int a1] M none r := by
  unfold p_Se_keep at h
  refine z_ofWC (lv := [(0, .ref (G.1 24)), (1, .int a1)]) (by decide) (Nat.le_of_ble_eq_true rfl) rfl (fun p e R s m args below meth c Q ls F hl hZ => ?_)
  obtain ⟨hx0, hb, hml, hr, hts, hown, hlocks, rfl, hQ⟩ := F
  refine lv_aload_n hx0 hb d_Se_keep_0 rfl (lv_at hl 0 rfl) ?_
  refine lv_iload_n hx0 hb d_Se_keep_1 rfl (lv_at hl 1 rfl) ?_
  refine fp_Se_bestCost hx0 hb hts hown hZ d_Se_keep_2 (fun H locs hZ => ?_)
  obtain ⟨m1, em1, h⟩ := nm_some h
  rw [em1] at hZ
  refine lv_iconst (v := (0 : Int32)) hx0 hb d_Se_keep_5 (by decide) ?_
  refine lv_istore_n (lv' := [(2, .int (0 : Int32)), (0, .ref (G.1 24)), (1, .int a1)]) hx0 hb d_Se_keep_6 rfl hl (by decide) rfl (fun ls hl => ?_)
  obtain ⟨q2, hq3, h⟩ := bnd_some h
  refine W_itr (At := fun (s0 : Int32 × Mem) => ∀ (H : Heap) (locs : List Loc) (ls : Array Slot), ZZC G s s0.2 H locs → lv_has ls 3 [(2, .int s0.1), (0, .ref (G.1 24))] → W p l e rm_Se_keep s m args below meth c H locs 0 0 Q (F0 m 7 ls [])) (Ex := fun (q0 : Int32 × Mem) => ∀ (H : Heap) (locs : List Loc) (ls : Array Slot), ZZC G s q0.2 H locs → lv_has ls 3 [] → W p l e rm_Se_keep s m args below meth c H locs 0 0 Q (F0 m 33 ls [])) (fun s0 x h hx => ?_) _ _ q2 hq3 (fun H locs ls hZ hl => ?_) _ _ _ hZ (lv_sub hl [0, 1] rfl)
  · obtain ⟨x2_7, M_7⟩ := s0
    replace h : p_Se_keep_L7 x2_7 M_7 = some x := h
    unfold p_Se_keep_L7 at h
    intro H locs ls hZ hl
    replace hZ : ZZC G s M_7 H locs := hZ
    replace hl : lv_has ls 3 [(2, .int x2_7), (0, .ref (G.1 24))] := hl
    refine lv_iload_n hx0 hb d_Se_keep_7 rfl (lv_at hl 0 rfl) ?_
    refine lv_aload_n hx0 hb d_Se_keep_8 rfl (lv_at hl 1 rfl) ?_
    refine fg_Se_columns hx0 hb hts hown hZ d_Se_keep_9 ?_
    refine lv_icmp_ge (tgt := 33) hx0 hb d_Se_keep_12 (by decide) (fun c7_1 => ?_) (fun c7_1 => ?_)
    · replace h := (if_pos c7_1).symm.trans h
      obtain rfl := Option.some.inj h
      exact hx _ _ _ hZ (lv_sub hl [] rfl)
    · replace h := (if_neg c7_1).symm.trans h
      refine lv_aload_n hx0 hb d_Se_keep_15 rfl (lv_at hl 1 rfl) ?_
      refine fg_Se_best hx0 hb hts hown hZ d_Se_keep_16 ?_
      refine lv_iload_n hx0 hb d_Se_keep_19 rfl (lv_at hl 0 rfl) ?_
      refine lv_aload_n hx0 hb d_Se_keep_20 rfl (lv_at hl 1 rfl) ?_
      refine fg_Se_least hx0 hb hts hown hZ d_Se_keep_21 ?_
      refine lv_iload_n hx0 hb d_Se_keep_24 rfl (lv_at hl 0 rfl) ?_
      obtain ⟨hi7_2, h⟩ := chk_some h
      refine z_ialoadC (k := 34) hx0 hb hZ hi7_2 d_Se_keep_25 ?_
      obtain ⟨hi7_3, h⟩ := chk_some h
      refine z_iastoreC (k := 36) hx0 hb hZ hi7_3 d_Se_keep_26 (fun H locs hZ => ?_)
      obtain ⟨m7_4, em7_4, h⟩ := nm_some h
      rw [em7_4] at hZ
      refine lv_iinc (v := (x2_7 + (1 : Int32))) (lv' := [(2, .int (x2_7 + (1 : Int32))), (0, .ref (G.1 24))]) hx0 hb d_Se_keep_27 hl (k := 0) rfl rfl (by decide) rfl (fun ls hl => ?_)
      refine lv_goto (tgt := 7) hx0 hb d_Se_keep_30 (by decide) ?_
      obtain rfl := Option.some.inj h
      exact hx _ _ _ hZ (lv_sub hl [0, 1] rfl)
  · replace hZ : ZZC G s q2.2 H locs := hZ
    replace hl : lv_has ls 3 [] := hl
    obtain rfl := Option.some.inj h
    exact z_vretC hx0 hb hr hZ hlocks hQ d_Se_keep_33
abbrev rm_Se_differing : Room := ({ frames := 0, cells := 0, slots := 0, locals := 0 } : Room)
set_option maxHeartbeats 4000000 in
set_option maxRecDepth 100000 in
theorem c_Se_differing (l : Launch) (G : zG)  (M : Mem) (r : Int32) (h : p_Se_differing  M = some r) : MetZC l G y_Se_differing (Cond.code y_Se_differing b_Se_differing 1 (some .int) :: zws) rm_Se_differing [.ref (G.1 24)] M (some (.int r)) M := by
  unfold p_Se_differing at h
  refine z_ofWC (lv := [(0, .ref (G.1 24))]) (by decide) (Nat.le_of_ble_eq_true rfl) rfl (fun p e R s m args below meth c Q ls F hl hZ => ?_)
  obtain ⟨hx0, hb, hml, hr, hts, hown, hlocks, rfl, hQ⟩ := F
  refine lv_aload_n hx0 hb d_Se_differing_0 rfl (lv_at hl 0 rfl) ?_
  refine fg_Se_bestCost hx0 hb hts hown hZ d_Se_differing_1 ?_
  refine lv_sipush (v := (10000 : Int32)) hx0 hb d_Se_differing_4 (by decide) ?_
  obtain ⟨hn1, h⟩ := chk_some h
  refine lv_idiv hx0 hb d_Se_differing_7 (of_decide_eq_true hn1) ?_
  obtain rfl := Option.some.inj h
  exact z_iretC hx0 hb hr hZ hlocks hQ d_Se_differing_8
abbrev rm_Se_foundIn : Room := ({ frames := 0, cells := 0, slots := 0, locals := 0 } : Room)
set_option maxHeartbeats 4000000 in
set_option maxRecDepth 100000 in
theorem c_Se_foundIn (l : Launch) (G : zG) (a1 : Int32) (M : Mem) (r : Int32) (h : p_Se_foundIn a1 M = some r) : MetZC l G y_Se_foundIn (Cond.code y_Se_foundIn b_Se_foundIn 2 (some .int) :: zws) rm_Se_foundIn [.ref (G.1 24), .int a1] M (some (.int r)) M := by
  unfold p_Se_foundIn at h
  refine z_ofWC (lv := [(0, .ref (G.1 24)), (1, .int a1)]) (by decide) (Nat.le_of_ble_eq_true rfl) rfl (fun p e R s m args below meth c Q ls F hl hZ => ?_)
  obtain ⟨hx0, hb, hml, hr, hts, hown, hlocks, rfl, hQ⟩ := F
  refine lv_aload_n hx0 hb d_Se_foundIn_0 rfl (lv_at hl 0 rfl) ?_
  refine fg_Se_best hx0 hb hts hown hZ d_Se_foundIn_1 ?_
  refine lv_iload_n hx0 hb d_Se_foundIn_4 rfl (lv_at hl 1 rfl) ?_
  obtain ⟨hi1, h⟩ := chk_some h
  refine z_ialoadC (k := 36) hx0 hb hZ hi1 d_Se_foundIn_5 ?_
  obtain rfl := Option.some.inj h
  exact z_iretC hx0 hb hr hZ hlocks hQ d_Se_foundIn_6
abbrev rm_ES_isWithin : Room := ({ frames := 0, cells := 0, slots := 0, locals := 0 } : Room)
set_option maxHeartbeats 4000000 in
set_option maxRecDepth 100000 in
theorem c_ES_isWithin (l : Launch) (G : zG) (a0 : Int32) (a1 : Int32) (M : Mem) (r : Int32) (h : p_ES_isWithin a0 a1 M = some r) : MetZC l G y_ES_isWithin (Cond.code y_ES_isWithin b_ES_isWithin 2 (some .boolean) :: zws) rm_ES_isWithin [.int a0, .int a1] M (some (.int r)) M := by
  unfold p_ES_isWithin at h
  refine z_ofWC (lv := [(0, .int a0), (1, .int a1)]) (by decide) (Nat.le_of_ble_eq_true rfl) rfl (fun p e R s m args below meth c Q ls F hl hZ => ?_)
  obtain ⟨hx0, hb, hml, hr, hts, hown, hlocks, rfl, hQ⟩ := F
  refine lv_iload_n hx0 hb d_ES_isWithin_0 rfl (lv_at hl 0 rfl) ?_
  refine lv_iload_n hx0 hb d_ES_isWithin_1 rfl (lv_at hl 1 rfl) ?_
  refine lv_ineg hx0 hb d_ES_isWithin_2 ?_
  refine lv_icmp_lt (tgt := 15) hx0 hb d_ES_isWithin_3 (by decide) (fun c1 => ?_) (fun c1 => ?_)
  · replace h := (if_pos c1).symm.trans h
    refine lv_iconst (v := (0 : Int32)) hx0 hb d_ES_isWithin_15 (by decide) ?_
    obtain rfl := Option.some.inj h
    exact z_zretC hx0 hb hr hZ hlocks hQ rfl d_ES_isWithin_16
  · replace h := (if_neg c1).symm.trans h
    refine lv_iload_n hx0 hb d_ES_isWithin_6 rfl (lv_at hl 0 rfl) ?_
    refine lv_iload_n hx0 hb d_ES_isWithin_7 rfl (lv_at hl 1 rfl) ?_
    refine lv_icmp_gt (tgt := 15) hx0 hb d_ES_isWithin_8 (by decide) (fun c2 => ?_) (fun c2 => ?_)
    · replace h := (if_pos c2).symm.trans h
      refine lv_iconst (v := (0 : Int32)) hx0 hb d_ES_isWithin_15 (by decide) ?_
      obtain rfl := Option.some.inj h
      exact z_zretC hx0 hb hr hZ hlocks hQ rfl d_ES_isWithin_16
    · replace h := (if_neg c2).symm.trans h
      refine lv_iconst (v := (1 : Int32)) hx0 hb d_ES_isWithin_11 (by decide) ?_
      refine lv_goto (tgt := 16) hx0 hb d_ES_isWithin_12 (by decide) ?_
      obtain rfl := Option.some.inj h
      exact z_zretC hx0 hb hr hZ hlocks hQ rfl d_ES_isWithin_16
abbrev rm_ES_leaf : Room := ({ frames := 2, cells := 0, slots := 0, locals := 45 } : Room)
set_option maxHeartbeats 4000000 in
set_option maxRecDepth 100000 in
theorem c_ES_leaf (l : Launch) (G : zG) (a1 : Int32) (M : Mem) (r : Int32 × Mem) (h : p_ES_leaf a1 M = some r) : MetZC l G y_ES_leaf (Cond.code y_ES_leaf b_ES_leaf 2 (some .int) :: zws) rm_ES_leaf [.ref (G.1 0), .int a1] M (some (.int r.1)) r.2 := by
  unfold p_ES_leaf at h
  refine z_ofWC (lv := [(0, .ref (G.1 0)), (1, .int a1)]) (by decide) (Nat.le_of_ble_eq_true rfl) rfl (fun p e R s m args below meth c Q ls F hl hZ => ?_)
  obtain ⟨hx0, hb, hml, hr, hts, hown, hlocks, rfl, hQ⟩ := F
  refine lv_iload_n hx0 hb d_ES_leaf_0 rfl (lv_at hl 1 rfl) ?_
  refine lv_sipush (v := (1000 : Int32)) hx0 hb d_ES_leaf_1 (by decide) ?_
  obtain ⟨q1, hc5, h⟩ := bnd_some h
  refine k_ES_ES_isWithin [.int a1, .int (1000 : Int32)] hx0 hb hml hts hown (c_ES_isWithin l G a1 (1000 : Int32) M q1 hc5) hZ rfl rfl ⟨Nat.le_of_ble_eq_true rfl, Nat.le_of_ble_eq_true rfl⟩ hl.1 rfl (Nat.le_of_ble_eq_true rfl) d_ES_leaf_4 (fun H locs hZ => ?_)
  refine lv_if_ne (tgt := 13) hx0 hb d_ES_leaf_7 (by decide) (fun c2 => ?_) (fun c2 => ?_)
  · replace h := (if_neg c2).symm.trans h
    refine lv_aload_n hx0 hb d_ES_leaf_13 rfl (lv_at hl 0 rfl) ?_
    refine fg_ES_learner hx0 hb hts hown hZ d_ES_leaf_14 ?_
    refine lv_iload_n hx0 hb d_ES_leaf_17 rfl (lv_at hl 1 rfl) ?_
    obtain ⟨q3, hc4, h⟩ := bnd_some h
    refine k_ES_Ln_addLeaf [.int a1] hx0 hb hml hts hown (c_Ln_addLeaf l G a1 M q3 hc4) hZ rfl rfl ⟨Nat.le_of_ble_eq_true rfl, Nat.le_of_ble_eq_true rfl⟩ hl.1 rfl (Nat.le_of_ble_eq_true rfl) d_ES_leaf_18 (fun H locs hZ => ?_)
    obtain rfl := Option.some.inj h
    exact z_iretC hx0 hb hr hZ hlocks hQ d_ES_leaf_21
  · replace h := (if_pos c2).symm.trans h
    refine lv_bipush (v := (-2 : Int32)) hx0 hb d_ES_leaf_10 (by decide) ?_
    obtain rfl := Option.some.inj h
    exact z_iretC hx0 hb hr hZ hlocks hQ d_ES_leaf_12
abbrev rm_ES_isColumn : Room := ({ frames := 0, cells := 0, slots := 0, locals := 0 } : Room)
set_option maxHeartbeats 4000000 in
set_option maxRecDepth 100000 in
theorem c_ES_isColumn (l : Launch) (G : zG) (a1 : Int32) (M : Mem) (r : Int32) (h : p_ES_isColumn a1 M = some r) : MetZC l G y_ES_isColumn (Cond.code y_ES_isColumn b_ES_isColumn 2 (some .boolean) :: zws) rm_ES_isColumn [.ref (G.1 0), .int a1] M (some (.int r)) M := by
  unfold p_ES_isColumn at h
  refine z_ofWC (lv := [(0, .ref (G.1 0)), (1, .int a1)]) (by decide) (Nat.le_of_ble_eq_true rfl) rfl (fun p e R s m args below meth c Q ls F hl hZ => ?_)
  obtain ⟨hx0, hb, hml, hr, hts, hown, hlocks, rfl, hQ⟩ := F
  refine lv_iload_n hx0 hb d_ES_isColumn_0 rfl (lv_at hl 1 rfl) ?_
  refine lv_if_lt (tgt := 16) hx0 hb d_ES_isColumn_1 (by decide) (fun c1 => ?_) (fun c1 => ?_)
  · replace h := (if_pos c1).symm.trans h
    refine lv_iconst (v := (0 : Int32)) hx0 hb d_ES_isColumn_16 (by decide) ?_
    obtain rfl := Option.some.inj h
    exact z_zretC hx0 hb hr hZ hlocks hQ rfl d_ES_isColumn_17
  · replace h := (if_neg c1).symm.trans h
    refine lv_iload_n hx0 hb d_ES_isColumn_4 rfl (lv_at hl 1 rfl) ?_
    refine lv_aload_n hx0 hb d_ES_isColumn_5 rfl (lv_at hl 0 rfl) ?_
    refine fg_ES_columns hx0 hb hts hown hZ d_ES_isColumn_6 ?_
    refine lv_icmp_ge (tgt := 16) hx0 hb d_ES_isColumn_9 (by decide) (fun c2 => ?_) (fun c2 => ?_)
    · replace h := (if_pos c2).symm.trans h
      refine lv_iconst (v := (0 : Int32)) hx0 hb d_ES_isColumn_16 (by decide) ?_
      obtain rfl := Option.some.inj h
      exact z_zretC hx0 hb hr hZ hlocks hQ rfl d_ES_isColumn_17
    · replace h := (if_neg c2).symm.trans h
      refine lv_iconst (v := (1 : Int32)) hx0 hb d_ES_isColumn_12 (by decide) ?_
      refine lv_goto (tgt := 17) hx0 hb d_ES_isColumn_13 (by decide) ?_
      obtain rfl := Option.some.inj h
      exact z_zretC hx0 hb hr hZ hlocks hQ rfl d_ES_isColumn_17
abbrev rm_ES_split : Room := ({ frames := 2, cells := 0, slots := 0, locals := 48 } : Room)
set_option maxHeartbeats 4000000 in
set_option maxRecDepth 100000 in
theorem c_ES_split (l : Launch) (G : zG) (a1 : Int32) (a2 : Int32) (a3 : Int32) (a4 : Int32) (M : Mem) (r : Int32 × Mem) (h : p_ES_split a1 a2 a3 a4 M = some r) : MetZC l G y_ES_split (Cond.code y_ES_split b_ES_split 5 (some .int) :: zws) rm_ES_split [.ref (G.1 0), .int a1, .int a2, .int a3, .int a4] M (some (.int r.1)) r.2 := by
  unfold p_ES_split at h
  refine z_ofWC (lv := [(0, .ref (G.1 0)), (1, .int a1), (2, .int a2), (3, .int a3), (4, .int a4)]) (by decide) (Nat.le_of_ble_eq_true rfl) rfl (fun p e R s m args below meth c Q ls F hl hZ => ?_)
  obtain ⟨hx0, hb, hml, hr, hts, hown, hlocks, rfl, hQ⟩ := F
  refine lv_aload_n hx0 hb d_ES_split_0 rfl (lv_at hl 0 rfl) ?_
  refine lv_iload_n hx0 hb d_ES_split_1 rfl (lv_at hl 1 rfl) ?_
  obtain ⟨q1, hc14, h⟩ := bnd_some h
  refine k_ES_ES_isColumn [.int a1] hx0 hb hml hts hown (c_ES_isColumn l G a1 M q1 hc14) hZ rfl rfl ⟨Nat.le_of_ble_eq_true rfl, Nat.le_of_ble_eq_true rfl⟩ hl.1 rfl (Nat.le_of_ble_eq_true rfl) d_ES_split_2 (fun H locs hZ => ?_)
  refine lv_if_eq (tgt := 31) hx0 hb d_ES_split_5 (by decide) (fun c2 => ?_) (fun c2 => ?_)
  · replace h := (if_pos c2).symm.trans h
    refine lv_iconst (v := (-1 : Int32)) hx0 hb d_ES_split_31 (by decide) ?_
    obtain rfl := Option.some.inj h
    exact z_iretC hx0 hb hr hZ hlocks hQ d_ES_split_32
  · replace h := (if_neg c2).symm.trans h
    refine lv_aload_n hx0 hb d_ES_split_8 rfl (lv_at hl 0 rfl) ?_
    refine fg_ES_learner hx0 hb hts hown hZ d_ES_split_9 ?_
    refine lv_iload_n hx0 hb d_ES_split_12 rfl (lv_at hl 3 rfl) ?_
    obtain ⟨q3, hc13, h⟩ := bnd_some h
    refine k_ES_Ln_hasNode [.int a3] hx0 hb hml hts hown (c_Ln_hasNode l G a3 M q3 hc13) hZ rfl rfl ⟨Nat.le_of_ble_eq_true rfl, Nat.le_of_ble_eq_true rfl⟩ hl.1 rfl (Nat.le_of_ble_eq_true rfl) d_ES_split_13 (fun H locs hZ => ?_)
    refine lv_if_eq (tgt := 31) hx0 hb d_ES_split_16 (by decide) (fun c4 => ?_) (fun c4 => ?_)
    · replace h := (if_pos c4).symm.trans h
      refine lv_iconst (v := (-1 : Int32)) hx0 hb d_ES_split_31 (by decide) ?_
      obtain rfl := Option.some.inj h
      exact z_iretC hx0 hb hr hZ hlocks hQ d_ES_split_32
    · replace h := (if_neg c4).symm.trans h
      refine lv_aload_n hx0 hb d_ES_split_19 rfl (lv_at hl 0 rfl) ?_
      refine fg_ES_learner hx0 hb hts hown hZ d_ES_split_20 ?_
      refine lv_iload hx0 hb d_ES_split_23 (lv_at hl 4 rfl) ?_
      obtain ⟨q5, hc12, h⟩ := bnd_some h
      refine k_ES_Ln_hasNode [.int a4] hx0 hb hml hts hown (c_Ln_hasNode l G a4 M q5 hc12) hZ rfl rfl ⟨Nat.le_of_ble_eq_true rfl, Nat.le_of_ble_eq_true rfl⟩ hl.1 rfl (Nat.le_of_ble_eq_true rfl) d_ES_split_25 (fun H locs hZ => ?_)
      refine lv_if_ne (tgt := 33) hx0 hb d_ES_split_28 (by decide) (fun c6 => ?_) (fun c6 => ?_)
      · replace h := (if_neg c6).symm.trans h
        refine lv_iload_n hx0 hb d_ES_split_33 rfl (lv_at hl 2 rfl) ?_
        refine lv_bipush (v := (100 : Int32)) hx0 hb d_ES_split_34 (by decide) ?_
        obtain ⟨q7, hc11, h⟩ := bnd_some h
        refine k_ES_ES_isWithin [.int a2, .int (100 : Int32)] hx0 hb hml hts hown (c_ES_isWithin l G a2 (100 : Int32) M q7 hc11) hZ rfl rfl ⟨Nat.le_of_ble_eq_true rfl, Nat.le_of_ble_eq_true rfl⟩ hl.1 rfl (Nat.le_of_ble_eq_true rfl) d_ES_split_36 (fun H locs hZ => ?_)
        refine lv_if_ne (tgt := 45) hx0 hb d_ES_split_39 (by decide) (fun c8 => ?_) (fun c8 => ?_)
        · replace h := (if_neg c8).symm.trans h
          refine lv_aload_n hx0 hb d_ES_split_45 rfl (lv_at hl 0 rfl) ?_
          refine fg_ES_learner hx0 hb hts hown hZ d_ES_split_46 ?_
          refine lv_iload_n hx0 hb d_ES_split_49 rfl (lv_at hl 1 rfl) ?_
          refine lv_iload_n hx0 hb d_ES_split_50 rfl (lv_at hl 2 rfl) ?_
          refine lv_iload_n hx0 hb d_ES_split_51 rfl (lv_at hl 3 rfl) ?_
          refine lv_iload hx0 hb d_ES_split_52 (lv_at hl 4 rfl) ?_
          obtain ⟨q9, hc10, h⟩ := bnd_some h
          refine k_ES_Ln_addSplit [.int a1, .int a2, .int a3, .int a4] hx0 hb hml hts hown (c_Ln_addSplit l G a1 a2 a3 a4 M q9 hc10) hZ rfl rfl ⟨Nat.le_of_ble_eq_true rfl, Nat.le_of_ble_eq_true rfl⟩ hl.1 rfl (Nat.le_of_ble_eq_true rfl) d_ES_split_54 (fun H locs hZ => ?_)
          obtain rfl := Option.some.inj h
          exact z_iretC hx0 hb hr hZ hlocks hQ d_ES_split_57
        · replace h := (if_pos c8).symm.trans h
          refine lv_bipush (v := (-2 : Int32)) hx0 hb d_ES_split_42 (by decide) ?_
          obtain rfl := Option.some.inj h
          exact z_iretC hx0 hb hr hZ hlocks hQ d_ES_split_44
      · replace h := (if_pos c6).symm.trans h
        refine lv_iconst (v := (-1 : Int32)) hx0 hb d_ES_split_31 (by decide) ?_
        obtain rfl := Option.some.inj h
        exact z_iretC hx0 hb hr hZ hlocks hQ d_ES_split_32
abbrev rm_ES_root : Room := ({ frames := 1, cells := 0, slots := 0, locals := 21 } : Room)
set_option maxHeartbeats 4000000 in
set_option maxRecDepth 100000 in
theorem c_ES_root (l : Launch) (G : zG) (a1 : Int32) (M : Mem) (r : Int32 × Mem) (h : p_ES_root a1 M = some r) : MetZC l G y_ES_root (Cond.code y_ES_root b_ES_root 2 (some .int) :: zws) rm_ES_root [.ref (G.1 0), .int a1] M (some (.int r.1)) r.2 := by
  unfold p_ES_root at h
  refine z_ofWC (lv := [(0, .ref (G.1 0)), (1, .int a1)]) (by decide) (Nat.le_of_ble_eq_true rfl) rfl (fun p e R s m args below meth c Q ls F hl hZ => ?_)
  obtain ⟨hx0, hb, hml, hr, hts, hown, hlocks, rfl, hQ⟩ := F
  refine lv_aload_n hx0 hb d_ES_root_0 rfl (lv_at hl 0 rfl) ?_
  refine fg_ES_learner hx0 hb hts hown hZ d_ES_root_1 ?_
  refine lv_iload_n hx0 hb d_ES_root_4 rfl (lv_at hl 1 rfl) ?_
  obtain ⟨q1, hc5, h⟩ := bnd_some h
  refine k_ES_Ln_hasNode [.int a1] hx0 hb hml hts hown (c_Ln_hasNode l G a1 M q1 hc5) hZ rfl rfl ⟨Nat.le_of_ble_eq_true rfl, Nat.le_of_ble_eq_true rfl⟩ hl.1 rfl (Nat.le_of_ble_eq_true rfl) d_ES_root_5 (fun H locs hZ => ?_)
  refine lv_if_ne (tgt := 13) hx0 hb d_ES_root_8 (by decide) (fun c2 => ?_) (fun c2 => ?_)
  · replace h := (if_neg c2).symm.trans h
    refine lv_aload_n hx0 hb d_ES_root_13 rfl (lv_at hl 0 rfl) ?_
    refine fg_ES_learner hx0 hb hts hown hZ d_ES_root_14 ?_
    refine lv_iload_n hx0 hb d_ES_root_17 rfl (lv_at hl 1 rfl) ?_
    obtain ⟨q3, hc4, h⟩ := bnd_some h
    refine k_ES_Ln_addRoot [.int a1] hx0 hb hml hts hown (c_Ln_addRoot l G a1 M q3 hc4) hZ rfl rfl ⟨Nat.le_of_ble_eq_true rfl, Nat.le_of_ble_eq_true rfl⟩ hl.1 rfl (Nat.le_of_ble_eq_true rfl) d_ES_root_18 (fun H locs hZ => ?_)
    obtain rfl := Option.some.inj h
    exact z_iretC hx0 hb hr hZ hlocks hQ d_ES_root_21
  · replace h := (if_pos c2).symm.trans h
    refine lv_iconst (v := (-1 : Int32)) hx0 hb d_ES_root_11 (by decide) ?_
    obtain rfl := Option.some.inj h
    exact z_iretC hx0 hb hr hZ hlocks hQ d_ES_root_12
abbrev rm_ES_weight : Room := ({ frames := 1, cells := 0, slots := 0, locals := 22 } : Room)
set_option maxHeartbeats 4000000 in
set_option maxRecDepth 100000 in
theorem c_ES_weight (l : Launch) (G : zG) (a1 : Int32) (a2 : Int32) (M : Mem) (r : Int32 × Mem) (h : p_ES_weight a1 a2 M = some r) : MetZC l G y_ES_weight (Cond.code y_ES_weight b_ES_weight 3 (some .int) :: zws) rm_ES_weight [.ref (G.1 0), .int a1, .int a2] M (some (.int r.1)) r.2 := by
  unfold p_ES_weight at h
  refine z_ofWC (lv := [(0, .ref (G.1 0)), (1, .int a1), (2, .int a2)]) (by decide) (Nat.le_of_ble_eq_true rfl) rfl (fun p e R s m args below meth c Q ls F hl hZ => ?_)
  obtain ⟨hx0, hb, hml, hr, hts, hown, hlocks, rfl, hQ⟩ := F
  refine lv_aload_n hx0 hb d_ES_weight_0 rfl (lv_at hl 0 rfl) ?_
  refine lv_iload_n hx0 hb d_ES_weight_1 rfl (lv_at hl 1 rfl) ?_
  obtain ⟨q1, hc8, h⟩ := bnd_some h
  refine k_ES_ES_isColumn [.int a1] hx0 hb hml hts hown (c_ES_isColumn l G a1 M q1 hc8) hZ rfl rfl ⟨Nat.le_of_ble_eq_true rfl, Nat.le_of_ble_eq_true rfl⟩ hl.1 rfl (Nat.le_of_ble_eq_true rfl) d_ES_weight_2 (fun H locs hZ => ?_)
  refine lv_if_ne (tgt := 10) hx0 hb d_ES_weight_5 (by decide) (fun c2 => ?_) (fun c2 => ?_)
  · replace h := (if_neg c2).symm.trans h
    refine lv_iload_n hx0 hb d_ES_weight_10 rfl (lv_at hl 2 rfl) ?_
    refine lv_bipush (v := (20 : Int32)) hx0 hb d_ES_weight_11 (by decide) ?_
    obtain ⟨q3, hc7, h⟩ := bnd_some h
    refine k_ES_ES_isWithin [.int a2, .int (20 : Int32)] hx0 hb hml hts hown (c_ES_isWithin l G a2 (20 : Int32) M q3 hc7) hZ rfl rfl ⟨Nat.le_of_ble_eq_true rfl, Nat.le_of_ble_eq_true rfl⟩ hl.1 rfl (Nat.le_of_ble_eq_true rfl) d_ES_weight_13 (fun H locs hZ => ?_)
    refine lv_if_ne (tgt := 22) hx0 hb d_ES_weight_16 (by decide) (fun c4 => ?_) (fun c4 => ?_)
    · replace h := (if_neg c4).symm.trans h
      refine lv_aload_n hx0 hb d_ES_weight_22 rfl (lv_at hl 0 rfl) ?_
      refine fg_ES_learner hx0 hb hts hown hZ d_ES_weight_23 ?_
      refine lv_iload_n hx0 hb d_ES_weight_26 rfl (lv_at hl 1 rfl) ?_
      refine lv_iload_n hx0 hb d_ES_weight_27 rfl (lv_at hl 2 rfl) ?_
      obtain ⟨q5, hc6, h⟩ := bnd_some h
      refine k_ES_Ln_weigh [.int a1, .int a2] hx0 hb hml hts hown (c_Ln_weigh l G a1 a2 M q5 hc6) hZ rfl rfl ⟨Nat.le_of_ble_eq_true rfl, Nat.le_of_ble_eq_true rfl⟩ hl.1 rfl (Nat.le_of_ble_eq_true rfl) d_ES_weight_28 (fun H locs hZ => ?_)
      refine lv_iconst (v := (1 : Int32)) hx0 hb d_ES_weight_31 (by decide) ?_
      obtain rfl := Option.some.inj h
      exact z_iretC hx0 hb hr hZ hlocks hQ d_ES_weight_32
    · replace h := (if_pos c4).symm.trans h
      refine lv_bipush (v := (-2 : Int32)) hx0 hb d_ES_weight_19 (by decide) ?_
      obtain rfl := Option.some.inj h
      exact z_iretC hx0 hb hr hZ hlocks hQ d_ES_weight_21
  · replace h := (if_pos c2).symm.trans h
    refine lv_iconst (v := (-1 : Int32)) hx0 hb d_ES_weight_8 (by decide) ?_
    obtain rfl := Option.some.inj h
    exact z_iretC hx0 hb hr hZ hlocks hQ d_ES_weight_9
abbrev rm_ES_clear : Room := ({ frames := 2, cells := 0, slots := 0, locals := 41 } : Room)
set_option maxHeartbeats 4000000 in
set_option maxRecDepth 100000 in
theorem c_ES_clear (l : Launch) (G : zG)  (M : Mem) (r : Int32 × Mem) (h : p_ES_clear  M = some r) : MetZC l G y_ES_clear (Cond.code y_ES_clear b_ES_clear 2 (some .int) :: zws) rm_ES_clear [.ref (G.1 0)] M (some (.int r.1)) r.2 := by
  unfold p_ES_clear at h
  refine z_ofWC (lv := [(0, .ref (G.1 0))]) (by decide) (Nat.le_of_ble_eq_true rfl) rfl (fun p e R s m args below meth c Q ls F hl hZ => ?_)
  obtain ⟨hx0, hb, hml, hr, hts, hown, hlocks, rfl, hQ⟩ := F
  refine lv_aload_n hx0 hb d_ES_clear_0 rfl (lv_at hl 0 rfl) ?_
  refine fg_ES_learner hx0 hb hts hown hZ d_ES_clear_1 ?_
  obtain ⟨q1, hc8, h⟩ := bnd_some h
  refine k_ES_Ln_forget [] hx0 hb hml hts hown (c_Ln_forget l G  M q1 hc8) hZ rfl rfl ⟨Nat.le_of_ble_eq_true rfl, Nat.le_of_ble_eq_true rfl⟩ hl.1 rfl (Nat.le_of_ble_eq_true rfl) d_ES_clear_4 (fun H locs hZ => ?_)
  refine lv_istore_n (lv' := [(1, .int q1.1), (0, .ref (G.1 0))]) hx0 hb d_ES_clear_7 rfl hl (by decide) rfl (fun ls hl => ?_)
  refine lv_aload_n hx0 hb d_ES_clear_8 rfl (lv_at hl 1 rfl) ?_
  refine fg_ES_rows hx0 hb hts hown hZ d_ES_clear_9 ?_
  obtain ⟨q2, hc7, h⟩ := bnd_some h
  refine k_ES_Rw_forget [] hx0 hb hml hts hown (c_Rw_forget l G  q1.2 q2 hc7) hZ rfl rfl ⟨Nat.le_of_ble_eq_true rfl, Nat.le_of_ble_eq_true rfl⟩ hl.1 rfl (Nat.le_of_ble_eq_true rfl) d_ES_clear_12 (fun H locs hZ => ?_)
  refine lv_aload_n hx0 hb d_ES_clear_15 rfl (lv_at hl 1 rfl) ?_
  refine fg_ES_groups hx0 hb hts hown hZ d_ES_clear_16 ?_
  obtain ⟨q3, hc6, h⟩ := bnd_some h
  refine k_ES_Gr_standAlone [] hx0 hb hml hts hown (c_Gr_standAlone l G  q2 q3 hc6) hZ rfl rfl ⟨Nat.le_of_ble_eq_true rfl, Nat.le_of_ble_eq_true rfl⟩ hl.1 rfl (Nat.le_of_ble_eq_true rfl) d_ES_clear_19 (fun H locs hZ => ?_)
  refine lv_aload_n hx0 hb d_ES_clear_22 rfl (lv_at hl 1 rfl) ?_
  refine fg_ES_search hx0 hb hts hown hZ d_ES_clear_23 ?_
  obtain ⟨q4, hc5, h⟩ := bnd_some h
  refine k_ES_Se_unbarAll [] hx0 hb hml hts hown (c_Se_unbarAll l G  q3 q4 hc5) hZ rfl rfl ⟨Nat.le_of_ble_eq_true rfl, Nat.le_of_ble_eq_true rfl⟩ hl.1 rfl (Nat.le_of_ble_eq_true rfl) d_ES_clear_26 (fun H locs hZ => ?_)
  refine lv_iload_n hx0 hb d_ES_clear_29 rfl (lv_at hl 0 rfl) ?_
  obtain rfl := Option.some.inj h
  exact z_iretC hx0 hb hr hZ hlocks hQ d_ES_clear_30
abbrev rm_ES_background : Room := ({ frames := 2, cells := 0, slots := 0, locals := 41 } : Room)
set_option maxHeartbeats 4000000 in
set_option maxRecDepth 100000 in
theorem c_ES_background (l : Launch) (G : zG)  (M : Mem) (r : Int32 × Mem) (h : p_ES_background  M = some r) : MetZC l G y_ES_background (Cond.code y_ES_background b_ES_background 1 (some .int) :: zws) rm_ES_background [.ref (G.1 0)] M (some (.int r.1)) r.2 := by
  unfold p_ES_background at h
  refine z_ofWC (lv := [(0, .ref (G.1 0))]) (by decide) (Nat.le_of_ble_eq_true rfl) rfl (fun p e R s m args below meth c Q ls F hl hZ => ?_)
  obtain ⟨hx0, hb, hml, hr, hts, hown, hlocks, rfl, hQ⟩ := F
  refine lv_aload_n hx0 hb d_ES_background_0 rfl (lv_at hl 0 rfl) ?_
  refine fg_ES_rows hx0 hb hts hown hZ d_ES_background_1 ?_
  obtain ⟨q1, hc2, h⟩ := bnd_some h
  refine k_ES_Rw_addRow [] hx0 hb hml hts hown (c_Rw_addRow l G  M q1 hc2) hZ rfl rfl ⟨Nat.le_of_ble_eq_true rfl, Nat.le_of_ble_eq_true rfl⟩ hl.1 rfl (Nat.le_of_ble_eq_true rfl) d_ES_background_4 (fun H locs hZ => ?_)
  obtain rfl := Option.some.inj h
  exact z_iretC hx0 hb hr hZ hlocks hQ d_ES_background_7
abbrev rm_ES_item : Room := ({ frames := 1, cells := 0, slots := 0, locals := 21 } : Room)
set_option maxHeartbeats 4000000 in
set_option maxRecDepth 100000 in
theorem c_ES_item (l : Launch) (G : zG) (a1 : Int32) (a2 : Int32) (a3 : Int32) (M : Mem) (r : Int32 × Mem) (h : p_ES_item a1 a2 a3 M = some r) : MetZC l G y_ES_item (Cond.code y_ES_item b_ES_item 4 (some .int) :: zws) rm_ES_item [.ref (G.1 0), .int a1, .int a2, .int a3] M (some (.int r.1)) r.2 := by
  unfold p_ES_item at h
  refine z_ofWC (lv := [(0, .ref (G.1 0)), (1, .int a1), (2, .int a2), (3, .int a3)]) (by decide) (Nat.le_of_ble_eq_true rfl) rfl (fun p e R s m args below meth c Q ls F hl hZ => ?_)
  obtain ⟨hx0, hb, hml, hr, hts, hown, hlocks, rfl, hQ⟩ := F
  refine lv_aload_n hx0 hb d_ES_item_0 rfl (lv_at hl 0 rfl) ?_
  refine fg_ES_rows hx0 hb hts hown hZ d_ES_item_1 ?_
  refine lv_iload_n hx0 hb d_ES_item_4 rfl (lv_at hl 1 rfl) ?_
  obtain ⟨q1, hc13, h⟩ := bnd_some h
  refine k_ES_Rw_has [.int a1] hx0 hb hml hts hown (c_Rw_has l G a1 M q1 hc13) hZ rfl rfl ⟨Nat.le_of_ble_eq_true rfl, Nat.le_of_ble_eq_true rfl⟩ hl.1 rfl (Nat.le_of_ble_eq_true rfl) d_ES_item_5 (fun H locs hZ => ?_)
  refine lv_if_eq (tgt := 19) hx0 hb d_ES_item_8 (by decide) (fun c2 => ?_) (fun c2 => ?_)
  · replace h := (if_pos c2).symm.trans h
    refine lv_iconst (v := (-1 : Int32)) hx0 hb d_ES_item_19 (by decide) ?_
    obtain rfl := Option.some.inj h
    exact z_iretC hx0 hb hr hZ hlocks hQ d_ES_item_20
  · replace h := (if_neg c2).symm.trans h
    refine lv_aload_n hx0 hb d_ES_item_11 rfl (lv_at hl 0 rfl) ?_
    refine lv_iload_n hx0 hb d_ES_item_12 rfl (lv_at hl 2 rfl) ?_
    obtain ⟨q3, hc12, h⟩ := bnd_some h
    refine k_ES_ES_isColumn [.int a2] hx0 hb hml hts hown (c_ES_isColumn l G a2 M q3 hc12) hZ rfl rfl ⟨Nat.le_of_ble_eq_true rfl, Nat.le_of_ble_eq_true rfl⟩ hl.1 rfl (Nat.le_of_ble_eq_true rfl) d_ES_item_13 (fun H locs hZ => ?_)
    refine lv_if_ne (tgt := 21) hx0 hb d_ES_item_16 (by decide) (fun c4 => ?_) (fun c4 => ?_)
    · replace h := (if_neg c4).symm.trans h
      refine lv_iload_n hx0 hb d_ES_item_21 rfl (lv_at hl 3 rfl) ?_
      refine lv_bipush (v := (100 : Int32)) hx0 hb d_ES_item_22 (by decide) ?_
      obtain ⟨q5, hc11, h⟩ := bnd_some h
      refine k_ES_ES_isWithin [.int a3, .int (100 : Int32)] hx0 hb hml hts hown (c_ES_isWithin l G a3 (100 : Int32) M q5 hc11) hZ rfl rfl ⟨Nat.le_of_ble_eq_true rfl, Nat.le_of_ble_eq_true rfl⟩ hl.1 rfl (Nat.le_of_ble_eq_true rfl) d_ES_item_24 (fun H locs hZ => ?_)
      refine lv_if_ne (tgt := 33) hx0 hb d_ES_item_27 (by decide) (fun c6 => ?_) (fun c6 => ?_)
      · replace h := (if_neg c6).symm.trans h
        refine lv_aload_n hx0 hb d_ES_item_33 rfl (lv_at hl 0 rfl) ?_
        refine fg_ES_rows hx0 hb hts hown hZ d_ES_item_34 ?_
        refine lv_iload_n hx0 hb d_ES_item_37 rfl (lv_at hl 1 rfl) ?_
        obtain ⟨q7, hc10, h⟩ := bnd_some h
        refine k_ES_Rw_at [.int a1] hx0 hb hml hts hown (c_Rw_at l G a1 M q7 hc10) hZ rfl rfl ⟨Nat.le_of_ble_eq_true rfl, Nat.le_of_ble_eq_true rfl⟩ hl.1 rfl (Nat.le_of_ble_eq_true rfl) d_ES_item_38 (fun H locs hZ => ?_)
        refine lv_iload_n hx0 hb d_ES_item_41 rfl (lv_at hl 2 rfl) ?_
        refine lv_iload_n hx0 hb d_ES_item_42 rfl (lv_at hl 3 rfl) ?_
        obtain ⟨hi8, h⟩ := chk_some h
        refine z_iastoreC (k := q7) hx0 hb hZ hi8 d_ES_item_43 (fun H locs hZ => ?_)
        obtain ⟨m9, em9, h⟩ := nm_some h
        rw [em9] at hZ
        refine lv_iconst (v := (1 : Int32)) hx0 hb d_ES_item_44 (by decide) ?_
        obtain rfl := Option.some.inj h
        exact z_iretC hx0 hb hr hZ hlocks hQ d_ES_item_45
      · replace h := (if_pos c6).symm.trans h
        refine lv_bipush (v := (-2 : Int32)) hx0 hb d_ES_item_30 (by decide) ?_
        obtain rfl := Option.some.inj h
        exact z_iretC hx0 hb hr hZ hlocks hQ d_ES_item_32
    · replace h := (if_pos c4).symm.trans h
      refine lv_iconst (v := (-1 : Int32)) hx0 hb d_ES_item_19 (by decide) ?_
      obtain rfl := Option.some.inj h
      exact z_iretC hx0 hb hr hZ hlocks hQ d_ES_item_20
abbrev rm_ES_group : Room := ({ frames := 1, cells := 0, slots := 0, locals := 23 } : Room)
set_option maxHeartbeats 4000000 in
set_option maxRecDepth 100000 in
theorem c_ES_group (l : Launch) (G : zG) (a1 : Int32) (a2 : Int32) (M : Mem) (r : Int32 × Mem) (h : p_ES_group a1 a2 M = some r) : MetZC l G y_ES_group (Cond.code y_ES_group b_ES_group 3 (some .int) :: zws) rm_ES_group [.ref (G.1 0), .int a1, .int a2] M (some (.int r.1)) r.2 := by
  unfold p_ES_group at h
  refine z_ofWC (lv := [(0, .ref (G.1 0)), (1, .int a1), (2, .int a2)]) (by decide) (Nat.le_of_ble_eq_true rfl) rfl (fun p e R s m args below meth c Q ls F hl hZ => ?_)
  obtain ⟨hx0, hb, hml, hr, hts, hown, hlocks, rfl, hQ⟩ := F
  refine lv_aload_n hx0 hb d_ES_group_0 rfl (lv_at hl 0 rfl) ?_
  refine lv_iload_n hx0 hb d_ES_group_1 rfl (lv_at hl 1 rfl) ?_
  obtain ⟨q1, hc8, h⟩ := bnd_some h
  refine k_ES_ES_isColumn [.int a1] hx0 hb hml hts hown (c_ES_isColumn l G a1 M q1 hc8) hZ rfl rfl ⟨Nat.le_of_ble_eq_true rfl, Nat.le_of_ble_eq_true rfl⟩ hl.1 rfl (Nat.le_of_ble_eq_true rfl) d_ES_group_2 (fun H locs hZ => ?_)
  refine lv_if_ne (tgt := 10) hx0 hb d_ES_group_5 (by decide) (fun c2 => ?_) (fun c2 => ?_)
  · replace h := (if_neg c2).symm.trans h
    refine lv_aload_n hx0 hb d_ES_group_10 rfl (lv_at hl 0 rfl) ?_
    refine lv_iload_n hx0 hb d_ES_group_11 rfl (lv_at hl 2 rfl) ?_
    obtain ⟨q3, hc7, h⟩ := bnd_some h
    refine k_ES_ES_isColumn [.int a2] hx0 hb hml hts hown (c_ES_isColumn l G a2 M q3 hc7) hZ rfl rfl ⟨Nat.le_of_ble_eq_true rfl, Nat.le_of_ble_eq_true rfl⟩ hl.1 rfl (Nat.le_of_ble_eq_true rfl) d_ES_group_12 (fun H locs hZ => ?_)
    refine lv_if_ne (tgt := 21) hx0 hb d_ES_group_15 (by decide) (fun c4 => ?_) (fun c4 => ?_)
    · replace h := (if_neg c4).symm.trans h
      refine lv_aload_n hx0 hb d_ES_group_21 rfl (lv_at hl 0 rfl) ?_
      refine fg_ES_groups hx0 hb hts hown hZ d_ES_group_22 ?_
      refine lv_iload_n hx0 hb d_ES_group_25 rfl (lv_at hl 1 rfl) ?_
      refine lv_iload_n hx0 hb d_ES_group_26 rfl (lv_at hl 2 rfl) ?_
      obtain ⟨q5, hc6, h⟩ := bnd_some h
      refine k_ES_Gr_move [.int a1, .int a2] hx0 hb hml hts hown (c_Gr_move l G a1 a2 M q5 hc6) hZ rfl rfl ⟨Nat.le_of_ble_eq_true rfl, Nat.le_of_ble_eq_true rfl⟩ hl.1 rfl (Nat.le_of_ble_eq_true rfl) d_ES_group_27 (fun H locs hZ => ?_)
      obtain rfl := Option.some.inj h
      exact z_iretC hx0 hb hr hZ hlocks hQ d_ES_group_30
    · replace h := (if_pos c4).symm.trans h
      refine lv_bipush (v := (-2 : Int32)) hx0 hb d_ES_group_18 (by decide) ?_
      obtain rfl := Option.some.inj h
      exact z_iretC hx0 hb hr hZ hlocks hQ d_ES_group_20
  · replace h := (if_pos c2).symm.trans h
    refine lv_iconst (v := (-1 : Int32)) hx0 hb d_ES_group_8 (by decide) ?_
    obtain rfl := Option.some.inj h
    exact z_iretC hx0 hb hr hZ hlocks hQ d_ES_group_9
abbrev rm_ES_answer : Room := ({ frames := 2, cells := 0, slots := 0, locals := 48 } : Room)
set_option maxHeartbeats 4000000 in
set_option maxRecDepth 100000 in
theorem c_ES_answer (l : Launch) (G : zG) (a1 : Int32) (M : Mem) (r : Int64) (h : p_ES_answer a1 M = some r) : MetZC l G y_ES_answer (Cond.code y_ES_answer b_ES_answer 2 (some .long) :: zws) rm_ES_answer [.ref (G.1 0), .int a1] M (some (.long r)) M := by
  unfold p_ES_answer at h
  refine z_ofWC (lv := [(0, .ref (G.1 0)), (1, .int a1)]) (by decide) (Nat.le_of_ble_eq_true rfl) rfl (fun p e R s m args below meth c Q ls F hl hZ => ?_)
  obtain ⟨hx0, hb, hml, hr, hts, hown, hlocks, rfl, hQ⟩ := F
  refine lv_aload_n hx0 hb d_ES_answer_0 rfl (lv_at hl 0 rfl) ?_
  refine fg_ES_rows hx0 hb hts hown hZ d_ES_answer_1 ?_
  refine lv_iload_n hx0 hb d_ES_answer_4 rfl (lv_at hl 1 rfl) ?_
  obtain ⟨q1, hc7, h⟩ := bnd_some h
  refine k_ES_Rw_has [.int a1] hx0 hb hml hts hown (c_Rw_has l G a1 M q1 hc7) hZ rfl rfl ⟨Nat.le_of_ble_eq_true rfl, Nat.le_of_ble_eq_true rfl⟩ hl.1 rfl (Nat.le_of_ble_eq_true rfl) d_ES_answer_5 (fun H locs hZ => ?_)
  refine lv_if_ne (tgt := 15) hx0 hb d_ES_answer_8 (by decide) (fun c2 => ?_) (fun c2 => ?_)
  · replace h := (if_neg c2).symm.trans h
    refine lv_aload_n hx0 hb d_ES_answer_15 rfl (lv_at hl 0 rfl) ?_
    refine fg_ES_learner hx0 hb hts hown hZ d_ES_answer_16 ?_
    refine lv_aload_n hx0 hb d_ES_answer_19 rfl (lv_at hl 0 rfl) ?_
    refine fg_ES_rows hx0 hb hts hown hZ d_ES_answer_20 ?_
    refine lv_iload_n hx0 hb d_ES_answer_23 rfl (lv_at hl 1 rfl) ?_
    obtain ⟨q3, hc6, h⟩ := bnd_some h
    refine k_ES_Rw_at [.int a1] hx0 hb hml hts hown (c_Rw_at l G a1 M q3 hc6) hZ rfl rfl ⟨Nat.le_of_ble_eq_true rfl, Nat.le_of_ble_eq_true rfl⟩ hl.1 rfl (Nat.le_of_ble_eq_true rfl) d_ES_answer_24 (fun H locs hZ => ?_)
    obtain ⟨q4, hc5, h⟩ := bnd_some h
    refine k_ES_Ln_sumFor [.ref (G.1 q3)] hx0 hb hml hts hown (c_Ln_sumFor l G q3 M q4 hc5) hZ rfl rfl ⟨Nat.le_of_ble_eq_true rfl, Nat.le_of_ble_eq_true rfl⟩ hl.1 rfl (Nat.le_of_ble_eq_true rfl) d_ES_answer_27 (fun H locs hZ => ?_)
    refine lv_i2l (v := Int32.toInt64 q4) hx0 hb d_ES_answer_30 rfl ?_
    obtain rfl := Option.some.inj h
    exact z_lretC hx0 hb hr hZ hlocks hQ d_ES_answer_31
  · replace h := (if_pos c2).symm.trans h
    refine lv_ldc2 (v := (-1000000000000 : Int64)) hx0 hb hown (hts _ wk_ES_114) d_ES_answer_11 ?_
    obtain rfl := Option.some.inj h
    exact z_lretC hx0 hb hr hZ hlocks hQ d_ES_answer_14
abbrev rm_ES_rank : Room := ({ frames := 6, cells := 0, slots := 0, locals := 147 } : Room)
set_option maxHeartbeats 4000000 in
set_option maxRecDepth 100000 in
theorem c_ES_rank (l : Launch) (G : zG) (a1 : Int32) (M : Mem) (r : Int32 × Mem) (h : p_ES_rank a1 M = some r) : MetZC l G y_ES_rank (Cond.code y_ES_rank b_ES_rank 2 (some .int) :: zws) rm_ES_rank [.ref (G.1 0), .int a1] M (some (.int r.1)) r.2 := by
  unfold p_ES_rank at h
  refine z_ofWC (lv := [(0, .ref (G.1 0)), (1, .int a1)]) (by decide) (Nat.le_of_ble_eq_true rfl) rfl (fun p e R s m args below meth c Q ls F hl hZ => ?_)
  obtain ⟨hx0, hb, hml, hr, hts, hown, hlocks, rfl, hQ⟩ := F
  refine lv_iload_n hx0 hb d_ES_rank_0 rfl (lv_at hl 1 rfl) ?_
  refine lv_if_lt (tgt := 15) hx0 hb d_ES_rank_1 (by decide) (fun c1 => ?_) (fun c1 => ?_)
  · replace h := (if_pos c1).symm.trans h
    refine lv_iconst (v := (-1 : Int32)) hx0 hb d_ES_rank_15 (by decide) ?_
    obtain rfl := Option.some.inj h
    exact z_iretC hx0 hb hr hZ hlocks hQ d_ES_rank_16
  · replace h := (if_neg c1).symm.trans h
    refine lv_iload_n hx0 hb d_ES_rank_4 rfl (lv_at hl 1 rfl) ?_
    refine lv_aload_n hx0 hb d_ES_rank_5 rfl (lv_at hl 0 rfl) ?_
    refine fg_ES_groups hx0 hb hts hown hZ d_ES_rank_6 ?_
    obtain ⟨q2, hc11, h⟩ := bnd_some h
    refine k_ES_Gr_count [] hx0 hb hml hts hown (c_Gr_count l G  M q2 hc11) hZ rfl rfl ⟨Nat.le_of_ble_eq_true rfl, Nat.le_of_ble_eq_true rfl⟩ hl.1 rfl (Nat.le_of_ble_eq_true rfl) d_ES_rank_9 (fun H locs hZ => ?_)
    refine lv_icmp_lt (tgt := 17) hx0 hb d_ES_rank_12 (by decide) (fun c3 => ?_) (fun c3 => ?_)
    · replace h := (if_pos c3).symm.trans h
      refine lv_aload_n hx0 hb d_ES_rank_17 rfl (lv_at hl 0 rfl) ?_
      refine fg_ES_rows hx0 hb hts hown hZ d_ES_rank_18 ?_
      obtain ⟨q4, hc10, h⟩ := bnd_some h
      refine k_ES_Rw_count [] hx0 hb hml hts hown (c_Rw_count l G  M q4 hc10) hZ rfl rfl ⟨Nat.le_of_ble_eq_true rfl, Nat.le_of_ble_eq_true rfl⟩ hl.1 rfl (Nat.le_of_ble_eq_true rfl) d_ES_rank_21 (fun H locs hZ => ?_)
      refine lv_if_ne (tgt := 30) hx0 hb d_ES_rank_24 (by decide) (fun c5 => ?_) (fun c5 => ?_)
      · replace h := (if_neg c5).symm.trans h
        refine lv_aload_n hx0 hb d_ES_rank_30 rfl (lv_at hl 0 rfl) ?_
        refine fg_ES_means hx0 hb hts hown hZ d_ES_rank_31 ?_
        obtain ⟨q6, hc9, h⟩ := bnd_some h
        refine k_ES_Me_measureShares [] hx0 hb hml hts hown (c_Me_measureShares l G  M q6 hc9) hZ rfl rfl ⟨Nat.le_of_ble_eq_true rfl, Nat.le_of_ble_eq_true rfl⟩ hl.1 rfl (Nat.le_of_ble_eq_true rfl) d_ES_rank_34 (fun H locs hZ => ?_)
        refine lv_aload_n hx0 hb d_ES_rank_37 rfl (lv_at hl 0 rfl) ?_
        refine fg_ES_means hx0 hb hts hown hZ d_ES_rank_38 ?_
        refine lv_iload_n hx0 hb d_ES_rank_41 rfl (lv_at hl 1 rfl) ?_
        obtain ⟨q7, hc8, h⟩ := bnd_some h
        refine k_ES_Me_groupAtPlace [.int a1] hx0 hb hml hts hown (c_Me_groupAtPlace l G a1 q6 q7 hc8) hZ rfl rfl ⟨Nat.le_of_ble_eq_true rfl, Nat.le_of_ble_eq_true rfl⟩ hl.1 rfl (Nat.le_of_ble_eq_true rfl) d_ES_rank_42 (fun H locs hZ => ?_)
        obtain rfl := Option.some.inj h
        exact z_iretC hx0 hb hr hZ hlocks hQ d_ES_rank_45
      · replace h := (if_pos c5).symm.trans h
        refine lv_bipush (v := (-3 : Int32)) hx0 hb d_ES_rank_27 (by decide) ?_
        obtain rfl := Option.some.inj h
        exact z_iretC hx0 hb hr hZ hlocks hQ d_ES_rank_29
    · replace h := (if_neg c3).symm.trans h
      refine lv_iconst (v := (-1 : Int32)) hx0 hb d_ES_rank_15 (by decide) ?_
      obtain rfl := Option.some.inj h
      exact z_iretC hx0 hb hr hZ hlocks hQ d_ES_rank_16
abbrev rm_ES_bar : Room := ({ frames := 1, cells := 0, slots := 0, locals := 23 } : Room)
set_option maxHeartbeats 4000000 in
set_option maxRecDepth 100000 in
theorem c_ES_bar (l : Launch) (G : zG) (a1 : Int32) (a2 : Int32) (M : Mem) (r : Int32 × Mem) (h : p_ES_bar a1 a2 M = some r) : MetZC l G y_ES_bar (Cond.code y_ES_bar b_ES_bar 3 (some .int) :: zws) rm_ES_bar [.ref (G.1 0), .int a1, .int a2] M (some (.int r.1)) r.2 := by
  unfold p_ES_bar at h
  refine z_ofWC (lv := [(0, .ref (G.1 0)), (1, .int a1), (2, .int a2)]) (by decide) (Nat.le_of_ble_eq_true rfl) rfl (fun p e R s m args below meth c Q ls F hl hZ => ?_)
  obtain ⟨hx0, hb, hml, hr, hts, hown, hlocks, rfl, hQ⟩ := F
  refine lv_aload_n hx0 hb d_ES_bar_0 rfl (lv_at hl 0 rfl) ?_
  refine lv_iload_n hx0 hb d_ES_bar_1 rfl (lv_at hl 1 rfl) ?_
  obtain ⟨q1, hc6, h⟩ := bnd_some h
  refine k_ES_ES_isColumn [.int a1] hx0 hb hml hts hown (c_ES_isColumn l G a1 M q1 hc6) hZ rfl rfl ⟨Nat.le_of_ble_eq_true rfl, Nat.le_of_ble_eq_true rfl⟩ hl.1 rfl (Nat.le_of_ble_eq_true rfl) d_ES_bar_2 (fun H locs hZ => ?_)
  refine lv_if_ne (tgt := 10) hx0 hb d_ES_bar_5 (by decide) (fun c2 => ?_) (fun c2 => ?_)
  · replace h := (if_neg c2).symm.trans h
    refine lv_aload_n hx0 hb d_ES_bar_10 rfl (lv_at hl 0 rfl) ?_
    refine fg_ES_search hx0 hb hts hown hZ d_ES_bar_11 ?_
    refine lv_iload_n hx0 hb d_ES_bar_14 rfl (lv_at hl 1 rfl) ?_
    refine lv_iload_n hx0 hb d_ES_bar_15 rfl (lv_at hl 2 rfl) ?_
    obtain ⟨q3, hc5, h⟩ := bnd_some h
    refine k_ES_Se_setBarred [.int a1, .int a2] hx0 hb hml hts hown (c_Se_setBarred l G a1 a2 M q3 hc5) hZ rfl rfl ⟨Nat.le_of_ble_eq_true rfl, Nat.le_of_ble_eq_true rfl⟩ hl.1 rfl (Nat.le_of_ble_eq_true rfl) d_ES_bar_16 (fun H locs hZ => ?_)
    refine lv_if_eq (tgt := 26) hx0 hb d_ES_bar_19 (by decide) (fun c4 => ?_) (fun c4 => ?_)
    · replace h := (if_pos c4).symm.trans h
      refine lv_iconst (v := (0 : Int32)) hx0 hb d_ES_bar_26 (by decide) ?_
      obtain rfl := Option.some.inj h
      exact z_iretC hx0 hb hr hZ hlocks hQ d_ES_bar_27
    · replace h := (if_neg c4).symm.trans h
      refine lv_iconst (v := (1 : Int32)) hx0 hb d_ES_bar_22 (by decide) ?_
      refine lv_goto (tgt := 27) hx0 hb d_ES_bar_23 (by decide) ?_
      obtain rfl := Option.some.inj h
      exact z_iretC hx0 hb hr hZ hlocks hQ d_ES_bar_27
  · replace h := (if_pos c2).symm.trans h
    refine lv_iconst (v := (-1 : Int32)) hx0 hb d_ES_bar_8 (by decide) ?_
    obtain rfl := Option.some.inj h
    exact z_iretC hx0 hb hr hZ hlocks hQ d_ES_bar_9
abbrev rm_ES_isPart : Room := ({ frames := 0, cells := 0, slots := 0, locals := 0 } : Room)
set_option maxHeartbeats 4000000 in
set_option maxRecDepth 100000 in
theorem c_ES_isPart (l : Launch) (G : zG) (a0 : Int32) (M : Mem) (r : Int32) (h : p_ES_isPart a0 M = some r) : MetZC l G y_ES_isPart (Cond.code y_ES_isPart b_ES_isPart 1 (some .boolean) :: zws) rm_ES_isPart [.int a0] M (some (.int r)) M := by
  unfold p_ES_isPart at h
  refine z_ofWC (lv := [(0, .int a0)]) (by decide) (Nat.le_of_ble_eq_true rfl) rfl (fun p e R s m args below meth c Q ls F hl hZ => ?_)
  obtain ⟨hx0, hb, hml, hr, hts, hown, hlocks, rfl, hQ⟩ := F
  refine lv_iload_n hx0 hb d_ES_isPart_0 rfl (lv_at hl 0 rfl) ?_
  refine lv_if_eq (tgt := 9) hx0 hb d_ES_isPart_1 (by decide) (fun c1 => ?_) (fun c1 => ?_)
  · replace h := (if_pos c1).symm.trans h
    refine lv_iconst (v := (1 : Int32)) hx0 hb d_ES_isPart_9 (by decide) ?_
    refine lv_goto (tgt := 14) hx0 hb d_ES_isPart_10 (by decide) ?_
    obtain rfl := Option.some.inj h
    exact z_zretC hx0 hb hr hZ hlocks hQ rfl d_ES_isPart_14
  · replace h := (if_neg c1).symm.trans h
    refine lv_iload_n hx0 hb d_ES_isPart_4 rfl (lv_at hl 0 rfl) ?_
    refine lv_iconst (v := (1 : Int32)) hx0 hb d_ES_isPart_5 (by decide) ?_
    refine lv_icmp_ne (tgt := 13) hx0 hb d_ES_isPart_6 (by decide) (fun c2 => ?_) (fun c2 => ?_)
    · replace h := (if_neg c2).symm.trans h
      refine lv_iconst (v := (0 : Int32)) hx0 hb d_ES_isPart_13 (by decide) ?_
      obtain rfl := Option.some.inj h
      exact z_zretC hx0 hb hr hZ hlocks hQ rfl d_ES_isPart_14
    · replace h := (if_pos c2).symm.trans h
      refine lv_iconst (v := (1 : Int32)) hx0 hb d_ES_isPart_9 (by decide) ?_
      refine lv_goto (tgt := 14) hx0 hb d_ES_isPart_10 (by decide) ?_
      obtain rfl := Option.some.inj h
      exact z_zretC hx0 hb hr hZ hlocks hQ rfl d_ES_isPart_14
abbrev rm_ES_commonDivisor : Room := ({ frames := 0, cells := 0, slots := 0, locals := 0 } : Room)
set_option maxHeartbeats 4000000 in
set_option maxRecDepth 100000 in
theorem c_ES_commonDivisor (l : Launch) (G : zG) (a0 : Int64) (a2 : Int64) (M : Mem) (r : Int64) (h : p_ES_commonDivisor a0 a2 M = some r) : MetZC l G y_ES_commonDivisor (Cond.code y_ES_commonDivisor b_ES_commonDivisor 11 (some .long) :: zws) rm_ES_commonDivisor [.long a0, .long a2] M (some (.long r)) M := by
  unfold p_ES_commonDivisor at h
  refine z_ofWC (lv := [(0, .long a0), (2, .long a2)]) (by decide) (Nat.le_of_ble_eq_true rfl) rfl (fun p e R s m args below meth c Q ls F hl hZ => ?_)
  obtain ⟨hx0, hb, hml, hr, hts, hown, hlocks, rfl, hQ⟩ := F
  refine lv_lload_n hx0 hb d_ES_commonDivisor_0 rfl (lv_at hl 0 rfl) ?_
  refine lv_lstore (lv' := [(4, .long a0), (0, .long a0), (2, .long a2)]) hx0 hb d_ES_commonDivisor_1 hl (by decide) rfl (fun ls hl => ?_)
  refine lv_lload_n hx0 hb d_ES_commonDivisor_3 rfl (lv_at hl 2 rfl) ?_
  refine lv_lstore (lv' := [(6, .long a2), (4, .long a0), (0, .long a0), (2, .long a2)]) hx0 hb d_ES_commonDivisor_4 hl (by decide) rfl (fun ls hl => ?_)
  refine lv_iconst (v := (0 : Int32)) hx0 hb d_ES_commonDivisor_6 (by decide) ?_
  refine lv_istore (lv' := [(8, .int (0 : Int32)), (6, .long a2), (4, .long a0), (0, .long a0), (2, .long a2)]) hx0 hb d_ES_commonDivisor_7 hl (by decide) rfl (fun ls hl => ?_)
  obtain ⟨q1, hq2, h⟩ := bnd_some h
  refine W_itr (At := fun (s0 : Int64 × Int64 × Int32) => ∀ (H : Heap) (locs : List Loc) (ls : Array Slot), ZZC G s M H locs → lv_has ls 11 [(8, .int s0.2.2), (6, .long s0.2.1), (4, .long s0.1)] → W p l e rm_ES_commonDivisor s m args below meth c H locs 0 0 Q (F0 m 9 ls [])) (Ex := fun (q0 : Int64 × Int64 × Int32) => ∀ (H : Heap) (locs : List Loc) (ls : Array Slot), ZZC G s M H locs → lv_has ls 11 [(4, .long q0.1)] → W p l e rm_ES_commonDivisor s m args below meth c H locs 0 0 Q (F0 m 44 ls [])) (fun s0 x h hx => ?_) _ _ q1 hq2 (fun H locs ls hZ hl => ?_) _ _ _ hZ (lv_sub hl [0, 1, 2] rfl)
  · obtain ⟨x4_9, x6_9, x8_9⟩ := s0
    replace h : p_ES_commonDivisor_L9 x4_9 x6_9 x8_9 = some x := h
    unfold p_ES_commonDivisor_L9 at h
    intro H locs ls hZ hl
    replace hZ : ZZC G s M H locs := hZ
    replace hl : lv_has ls 11 [(8, .int x8_9), (6, .long x6_9), (4, .long x4_9)] := hl
    refine lv_iload hx0 hb d_ES_commonDivisor_9 (lv_at hl 0 rfl) ?_
    refine lv_bipush (v := (100 : Int32)) hx0 hb d_ES_commonDivisor_11 (by decide) ?_
    refine lv_icmp_ge (tgt := 44) hx0 hb d_ES_commonDivisor_13 (by decide) (fun c9_1 => ?_) (fun c9_1 => ?_)
    · replace h := (if_pos c9_1).symm.trans h
      obtain rfl := Option.some.inj h
      exact hx _ _ _ hZ (lv_sub hl [2] rfl)
    · replace h := (if_neg c9_1).symm.trans h
      refine lv_lload hx0 hb d_ES_commonDivisor_16 (lv_at hl 1 rfl) ?_
      refine lv_lconst (v := (0 : Int64)) hx0 hb d_ES_commonDivisor_18 (by decide) ?_
      refine W.lcmp hx0 hb d_ES_commonDivisor_19 ?_
      refine lv_if_eq (tgt := 44) hx0 hb d_ES_commonDivisor_20 (by decide) (fun c9_2 => ?_) (fun c9_2 => ?_)
      · replace h := (if_pos c9_2).symm.trans h
        obtain rfl := Option.some.inj h
        exact hx _ _ _ hZ (lv_sub hl [2] rfl)
      · replace h := (if_neg c9_2).symm.trans h
        refine lv_lload hx0 hb d_ES_commonDivisor_23 (lv_at hl 2 rfl) ?_
        refine lv_lload hx0 hb d_ES_commonDivisor_25 (lv_at hl 1 rfl) ?_
        obtain ⟨hn9_3, h⟩ := chk_some h
        refine lv_lrem hx0 hb d_ES_commonDivisor_27 (of_decide_eq_true hn9_3) ?_
        refine lv_lstore (lv' := [(9, .long (x4_9 - x4_9 / x6_9 * x6_9)), (8, .int x8_9), (6, .long x6_9), (4, .long x4_9)]) hx0 hb d_ES_commonDivisor_28 hl (by decide) rfl (fun ls hl => ?_)
        refine lv_lload hx0 hb d_ES_commonDivisor_30 (lv_at hl 2 rfl) ?_
        refine lv_lstore (lv' := [(4, .long x6_9), (9, .long (x4_9 - x4_9 / x6_9 * x6_9)), (8, .int x8_9), (6, .long x6_9)]) hx0 hb d_ES_commonDivisor_32 hl (by decide) rfl (fun ls hl => ?_)
        refine lv_lload hx0 hb d_ES_commonDivisor_34 (lv_at hl 1 rfl) ?_
        refine lv_lstore (lv' := [(6, .long (x4_9 - x4_9 / x6_9 * x6_9)), (4, .long x6_9), (9, .long (x4_9 - x4_9 / x6_9 * x6_9)), (8, .int x8_9)]) hx0 hb d_ES_commonDivisor_36 hl (by decide) rfl (fun ls hl => ?_)
        refine lv_iinc (v := (x8_9 + (1 : Int32))) (lv' := [(8, .int (x8_9 + (1 : Int32))), (6, .long (x4_9 - x4_9 / x6_9 * x6_9)), (4, .long x6_9), (9, .long (x4_9 - x4_9 / x6_9 * x6_9))]) hx0 hb d_ES_commonDivisor_38 hl (k := 3) rfl rfl (by decide) rfl (fun ls hl => ?_)
        refine lv_goto (tgt := 9) hx0 hb d_ES_commonDivisor_41 (by decide) ?_
        obtain rfl := Option.some.inj h
        exact hx _ _ _ hZ (lv_sub hl [0, 1, 2] rfl)
  · replace hZ : ZZC G s M H locs := hZ
    replace hl : lv_has ls 11 [(4, .long q1.1)] := hl
    refine lv_lload hx0 hb d_ES_commonDivisor_44 (lv_at hl 0 rfl) ?_
    obtain rfl := Option.some.inj h
    exact z_lretC hx0 hb hr hZ hlocks hQ d_ES_commonDivisor_46
abbrev rm_ES_isManner : Room := ({ frames := 0, cells := 0, slots := 0, locals := 0 } : Room)
set_option maxHeartbeats 4000000 in
set_option maxRecDepth 100000 in
theorem c_ES_isManner (l : Launch) (G : zG) (a0 : Int32) (M : Mem) (r : Int32) (h : p_ES_isManner a0 M = some r) : MetZC l G y_ES_isManner (Cond.code y_ES_isManner b_ES_isManner 1 (some .boolean) :: zws) rm_ES_isManner [.int a0] M (some (.int r)) M := by
  unfold p_ES_isManner at h
  refine z_ofWC (lv := [(0, .int a0)]) (by decide) (Nat.le_of_ble_eq_true rfl) rfl (fun p e R s m args below meth c Q ls F hl hZ => ?_)
  obtain ⟨hx0, hb, hml, hr, hts, hown, hlocks, rfl, hQ⟩ := F
  refine lv_iload_n hx0 hb d_ES_isManner_0 rfl (lv_at hl 0 rfl) ?_
  refine lv_if_eq (tgt := 9) hx0 hb d_ES_isManner_1 (by decide) (fun c1 => ?_) (fun c1 => ?_)
  · replace h := (if_pos c1).symm.trans h
    refine lv_iconst (v := (1 : Int32)) hx0 hb d_ES_isManner_9 (by decide) ?_
    refine lv_goto (tgt := 14) hx0 hb d_ES_isManner_10 (by decide) ?_
    obtain rfl := Option.some.inj h
    exact z_zretC hx0 hb hr hZ hlocks hQ rfl d_ES_isManner_14
  · replace h := (if_neg c1).symm.trans h
    refine lv_iload_n hx0 hb d_ES_isManner_4 rfl (lv_at hl 0 rfl) ?_
    refine lv_iconst (v := (1 : Int32)) hx0 hb d_ES_isManner_5 (by decide) ?_
    refine lv_icmp_ne (tgt := 13) hx0 hb d_ES_isManner_6 (by decide) (fun c2 => ?_) (fun c2 => ?_)
    · replace h := (if_neg c2).symm.trans h
      refine lv_iconst (v := (0 : Int32)) hx0 hb d_ES_isManner_13 (by decide) ?_
      obtain rfl := Option.some.inj h
      exact z_zretC hx0 hb hr hZ hlocks hQ rfl d_ES_isManner_14
    · replace h := (if_pos c2).symm.trans h
      refine lv_iconst (v := (1 : Int32)) hx0 hb d_ES_isManner_9 (by decide) ?_
      refine lv_goto (tgt := 14) hx0 hb d_ES_isManner_10 (by decide) ?_
      obtain rfl := Option.some.inj h
      exact z_zretC hx0 hb hr hZ hlocks hQ rfl d_ES_isManner_14
