abbrev rm_Md_before : Room := ({ frames := 0, cells := 0, slots := 0, locals := 0 } : Room)
set_option maxHeartbeats 4000000 in
set_option maxRecDepth 100000 in
theorem c_Md_before (l : Launch) (G : zG) (a1 : Int32) (M : Mem) (r : Int32) (h : p_Md_before a1 M = some r) : MetZT l G y_Md_before (Cond.code y_Md_before b_Md_before 4 (some .int) :: zws) rm_Md_before [.ref (G.1 0), .int a1] M (some (.int r)) M := by
  unfold p_Md_before at h
  refine z_ofWT (lv := [(0, .ref (G.1 0)), (1, .int a1)]) (by decide) (Nat.le_of_ble_eq_true rfl) rfl (fun p e R s m args below meth c Q ls F hl hZ => ?_)
  obtain ⟨hx0, hb, hml, hr, hts, hown, hlocks, rfl, hQ⟩ := F
  refine lv_iconst (v := (0 : Int32)) hx0 hb d_Md_before_0 (by decide) ?_
  refine lv_istore_n (lv' := [(2, .int (0 : Int32)), (0, .ref (G.1 0)), (1, .int a1)]) hx0 hb d_Md_before_1 rfl hl (by decide) rfl (fun ls hl => ?_)
  refine lv_iconst (v := (0 : Int32)) hx0 hb d_Md_before_2 (by decide) ?_
  refine lv_istore_n (lv' := [(3, .int (0 : Int32)), (2, .int (0 : Int32)), (0, .ref (G.1 0)), (1, .int a1)]) hx0 hb d_Md_before_3 rfl hl (by decide) rfl (fun ls hl => ?_)
  obtain ⟨q1, hq2, h⟩ := bnd_some h
  refine W_itr (At := fun (s0 : Int32 × Int32) => ∀ (H : Heap) (locs : List Loc) (ls : Array Slot), ZZT G s M H locs → lv_has ls 4 [(3, .int s0.2), (2, .int s0.1), (0, .ref (G.1 0)), (1, .int a1)] → W p l e rm_Md_before s m args below meth c H locs 0 0 Q (F0 m 4 ls [])) (Ex := fun (q0 : Int32 × Int32) => ∀ (H : Heap) (locs : List Loc) (ls : Array Slot), ZZT G s M H locs → lv_has ls 4 [(2, .int q0.1)] → W p l e rm_Md_before s m args below meth c H locs 0 0 Q (F0 m 39 ls [])) (fun s0 x h hx => ?_) _ _ q1 hq2 (fun H locs ls hZ hl => ?_) _ _ _ hZ (lv_sub hl [0, 1, 2, 3] rfl)
  · obtain ⟨x2_4, x3_4⟩ := s0
    replace h : p_Md_before_L4 a1 M x2_4 x3_4 = some x := h
    unfold p_Md_before_L4 at h
    intro H locs ls hZ hl
    replace hZ : ZZT G s M H locs := hZ
    replace hl : lv_has ls 4 [(3, .int x3_4), (2, .int x2_4), (0, .ref (G.1 0)), (1, .int a1)] := hl
    refine lv_aload_n hx0 hb d_Md_before_4 rfl (lv_at hl 2 rfl) ?_
    refine fg_Md_parts hx0 hb hts hown hZ d_Md_before_5 ?_
    refine lv_aload_n hx0 hb d_Md_before_8 rfl (lv_at hl 2 rfl) ?_
    refine fg_Md_order hx0 hb hts hown hZ d_Md_before_9 ?_
    refine lv_iload_n hx0 hb d_Md_before_12 rfl (lv_at hl 0 rfl) ?_
    obtain ⟨hi4_1, h⟩ := chk_some h
    refine z_ialoadT (k := 14) hx0 hb hZ hi4_1 d_Md_before_13 ?_
    obtain ⟨hi4_2, h⟩ := chk_some h
    refine z_ialoadT (k := 13) hx0 hb hZ hi4_2 d_Md_before_14 ?_
    refine lv_iload_n hx0 hb d_Md_before_15 rfl (lv_at hl 3 rfl) ?_
    refine lv_icmp_eq (tgt := 39) hx0 hb d_Md_before_16 (by decide) (fun c4_3 => ?_) (fun c4_3 => ?_)
    · replace h := (if_pos c4_3).symm.trans h
      obtain rfl := Option.some.inj h
      exact hx _ _ _ hZ (lv_sub hl [1] rfl)
    · replace h := (if_neg c4_3).symm.trans h
      refine lv_iload_n hx0 hb d_Md_before_19 rfl (lv_at hl 1 rfl) ?_
      refine lv_aload_n hx0 hb d_Md_before_20 rfl (lv_at hl 2 rfl) ?_
      refine fg_Md_parts hx0 hb hts hown hZ d_Md_before_21 ?_
      refine lv_aload_n hx0 hb d_Md_before_24 rfl (lv_at hl 2 rfl) ?_
      refine fg_Md_order hx0 hb hts hown hZ d_Md_before_25 ?_
      refine lv_iload_n hx0 hb d_Md_before_28 rfl (lv_at hl 0 rfl) ?_
      obtain ⟨hi4_4, h⟩ := chk_some h
      refine z_ialoadT (k := 14) hx0 hb hZ hi4_4 d_Md_before_29 ?_
      obtain ⟨hi4_5, h⟩ := chk_some h
      refine z_ialoadT (k := 13) hx0 hb hZ hi4_5 d_Md_before_30 ?_
      refine lv_ior hx0 hb d_Md_before_31 ?_
      refine lv_istore_n (lv' := [(2, .int (x2_4 ||| (M.1 13 (Int32.toNatClampNeg (M.1 14 (Int32.toNatClampNeg x3_4)))))), (3, .int x3_4), (0, .ref (G.1 0)), (1, .int a1)]) hx0 hb d_Md_before_32 rfl hl (by decide) rfl (fun ls hl => ?_)
      refine lv_iinc (v := (x3_4 + (1 : Int32))) (lv' := [(3, .int (x3_4 + (1 : Int32))), (2, .int (x2_4 ||| (M.1 13 (Int32.toNatClampNeg (M.1 14 (Int32.toNatClampNeg x3_4)))))), (0, .ref (G.1 0)), (1, .int a1)]) hx0 hb d_Md_before_33 hl (k := 1) rfl rfl (by decide) rfl (fun ls hl => ?_)
      refine lv_goto (tgt := 4) hx0 hb d_Md_before_36 (by decide) ?_
      obtain rfl := Option.some.inj h
      exact hx _ _ _ hZ (lv_sub hl [0, 1, 2, 3] rfl)
  · replace hZ : ZZT G s M H locs := hZ
    replace hl : lv_has ls 4 [(2, .int q1.1)] := hl
    refine lv_iload_n hx0 hb d_Md_before_39 rfl (lv_at hl 0 rfl) ?_
    obtain rfl := Option.some.inj h
    exact z_iretT hx0 hb hr hZ hlocks hQ d_Md_before_40
abbrev rm_Md_shareSum : Room := ({ frames := 2, cells := 0, slots := 0, locals := 47 } : Room)
set_option maxHeartbeats 4000000 in
set_option maxRecDepth 100000 in
theorem c_Md_shareSum (l : Launch) (G : zG) (a1 : Int32) (M : Mem) (r : Int64 × Mem) (h : p_Md_shareSum a1 M = some r) : MetZT l G y_Md_shareSum (Cond.code y_Md_shareSum b_Md_shareSum 6 (some .long) :: zws) rm_Md_shareSum [.ref (G.1 0), .int a1] M (some (.long r.1)) r.2 := by
  unfold p_Md_shareSum at h
  refine z_ofWT (lv := [(0, .ref (G.1 0)), (1, .int a1)]) (by decide) (Nat.le_of_ble_eq_true rfl) rfl (fun p e R s m args below meth c Q ls F hl hZ => ?_)
  obtain ⟨hx0, hb, hml, hr, hts, hown, hlocks, rfl, hQ⟩ := F
  refine lv_aload_n hx0 hb d_Md_shareSum_0 rfl (lv_at hl 0 rfl) ?_
  refine lv_iconst (v := (0 : Int32)) hx0 hb d_Md_shareSum_1 (by decide) ?_
  refine lv_iconst (v := (0 : Int32)) hx0 hb d_Md_shareSum_2 (by decide) ?_
  obtain ⟨q1, hc3, h⟩ := bnd_some h
  refine k_Md_Md_listParts [.int (0 : Int32), .int (0 : Int32)] hx0 hb hml hts hown (c_Md_listParts l G (0 : Int32) (0 : Int32) M q1 hc3) hZ rfl rfl ⟨Nat.le_of_ble_eq_true rfl, Nat.le_of_ble_eq_true rfl⟩ hl.1 rfl (Nat.le_of_ble_eq_true rfl) d_Md_shareSum_3 (fun H locs hZ => ?_)
  refine lv_lconst (v := (0 : Int64)) hx0 hb d_Md_shareSum_6 (by decide) ?_
  refine lv_lstore_n (lv' := [(2, .long (0 : Int64)), (0, .ref (G.1 0)), (1, .int a1)]) hx0 hb d_Md_shareSum_7 rfl hl (by decide) rfl (fun ls hl => ?_)
  refine lv_iconst (v := (0 : Int32)) hx0 hb d_Md_shareSum_8 (by decide) ?_
  refine lv_istore (lv' := [(4, .int (0 : Int32)), (2, .long (0 : Int64)), (0, .ref (G.1 0)), (1, .int a1)]) hx0 hb d_Md_shareSum_9 hl (by decide) rfl (fun ls hl => ?_)
  obtain ⟨q2, hq4, h⟩ := bnd_some h
  refine W_itr (At := fun (s0 : Int64 × Int32 × Mem) => ∀ (H : Heap) (locs : List Loc) (ls : Array Slot), ZZT G s s0.2.2 H locs → lv_has ls 6 [(4, .int s0.2.1), (2, .long s0.1), (0, .ref (G.1 0)), (1, .int a1)] → W p l e rm_Md_shareSum s m args below meth c H locs 0 0 Q (F0 m 11 ls [])) (Ex := fun (q0 : Int64 × Int32 × Mem) => ∀ (H : Heap) (locs : List Loc) (ls : Array Slot), ZZT G s q0.2.2 H locs → lv_has ls 6 [(2, .long q0.1)] → W p l e rm_Md_shareSum s m args below meth c H locs 0 0 Q (F0 m 59 ls [])) (fun s0 x h hx => ?_) _ _ q2 hq4 (fun H locs ls hZ hl => ?_) _ _ _ hZ (lv_sub hl [0, 1, 2, 3] rfl)
  · obtain ⟨x2_11, x4_11, M_11⟩ := s0
    replace h : p_Md_shareSum_L11 a1 x2_11 x4_11 M_11 = some x := h
    unfold p_Md_shareSum_L11 at h
    intro H locs ls hZ hl
    replace hZ : ZZT G s M_11 H locs := hZ
    replace hl : lv_has ls 6 [(4, .int x4_11), (2, .long x2_11), (0, .ref (G.1 0)), (1, .int a1)] := hl
    refine lv_iload hx0 hb d_Md_shareSum_11 (lv_at hl 0 rfl) ?_
    refine lv_aload_n hx0 hb d_Md_shareSum_13 rfl (lv_at hl 2 rfl) ?_
    obtain ⟨q11_1, hc11_9, h⟩ := bnd_some h
    refine k_Md_Md_orders [] hx0 hb hml hts hown (c_Md_orders l G  M_11 q11_1 hc11_9) hZ rfl rfl ⟨Nat.le_of_ble_eq_true rfl, Nat.le_of_ble_eq_true rfl⟩ hl.1 rfl (Nat.le_of_ble_eq_true rfl) d_Md_shareSum_14 (fun H locs hZ => ?_)
    refine lv_icmp_ge (tgt := 59) hx0 hb d_Md_shareSum_17 (by decide) (fun c11_2 => ?_) (fun c11_2 => ?_)
    · replace h := (if_pos c11_2).symm.trans h
      obtain rfl := Option.some.inj h
      exact hx _ _ _ hZ (lv_sub hl [1] rfl)
    · replace h := (if_neg c11_2).symm.trans h
      refine lv_aload_n hx0 hb d_Md_shareSum_20 rfl (lv_at hl 2 rfl) ?_
      refine lv_iload hx0 hb d_Md_shareSum_21 (lv_at hl 0 rfl) ?_
      obtain ⟨q11_3, hc11_8, h⟩ := bnd_some h
      refine k_Md_Md_layOrder [.int x4_11] hx0 hb hml hts hown (c_Md_layOrder l G x4_11 M_11 q11_3 hc11_8) hZ rfl rfl ⟨Nat.le_of_ble_eq_true rfl, Nat.le_of_ble_eq_true rfl⟩ hl.1 rfl (Nat.le_of_ble_eq_true rfl) d_Md_shareSum_23 (fun H locs hZ => ?_)
      refine lv_aload_n hx0 hb d_Md_shareSum_26 rfl (lv_at hl 2 rfl) ?_
      refine lv_iload_n hx0 hb d_Md_shareSum_27 rfl (lv_at hl 3 rfl) ?_
      obtain ⟨q11_4, hc11_7, h⟩ := bnd_some h
      refine k_Md_Md_before [.int a1] hx0 hb hml hts hown (c_Md_before l G a1 q11_3 q11_4 hc11_7) hZ rfl rfl ⟨Nat.le_of_ble_eq_true rfl, Nat.le_of_ble_eq_true rfl⟩ hl.1 rfl (Nat.le_of_ble_eq_true rfl) d_Md_shareSum_28 (fun H locs hZ => ?_)
      refine lv_istore (lv' := [(5, .int q11_4), (4, .int x4_11), (2, .long x2_11), (0, .ref (G.1 0)), (1, .int a1)]) hx0 hb d_Md_shareSum_31 hl (by decide) rfl (fun ls hl => ?_)
      refine lv_lload_n hx0 hb d_Md_shareSum_33 rfl (lv_at hl 2 rfl) ?_
      refine lv_aload_n hx0 hb d_Md_shareSum_34 rfl (lv_at hl 3 rfl) ?_
      refine fg_Md_sums hx0 hb hts hown hZ d_Md_shareSum_35 ?_
      refine lv_iload hx0 hb d_Md_shareSum_38 (lv_at hl 0 rfl) ?_
      refine lv_iload_n hx0 hb d_Md_shareSum_40 rfl (lv_at hl 4 rfl) ?_
      refine lv_ior hx0 hb d_Md_shareSum_41 ?_
      obtain ⟨hi11_5, h⟩ := chk_some h
      refine z_laloadT (k := 12) hx0 hb hZ hi11_5 d_Md_shareSum_42 ?_
      refine lv_aload_n hx0 hb d_Md_shareSum_43 rfl (lv_at hl 3 rfl) ?_
      refine fg_Md_sums hx0 hb hts hown hZ d_Md_shareSum_44 ?_
      refine lv_iload hx0 hb d_Md_shareSum_47 (lv_at hl 0 rfl) ?_
      obtain ⟨hi11_6, h⟩ := chk_some h
      refine z_laloadT (k := 12) hx0 hb hZ hi11_6 d_Md_shareSum_49 ?_
      refine lv_lsub hx0 hb d_Md_shareSum_50 ?_
      refine lv_ladd hx0 hb d_Md_shareSum_51 ?_
      refine lv_lstore_n (lv' := [(2, .long (x2_11 + ((q11_3.2 12 (Int32.toNatClampNeg (q11_4 ||| a1))) - (q11_3.2 12 (Int32.toNatClampNeg q11_4))))), (5, .int q11_4), (4, .int x4_11), (0, .ref (G.1 0)), (1, .int a1)]) hx0 hb d_Md_shareSum_52 rfl hl (by decide) rfl (fun ls hl => ?_)
      refine lv_iinc (v := (x4_11 + (1 : Int32))) (lv' := [(4, .int (x4_11 + (1 : Int32))), (2, .long (x2_11 + ((q11_3.2 12 (Int32.toNatClampNeg (q11_4 ||| a1))) - (q11_3.2 12 (Int32.toNatClampNeg q11_4))))), (5, .int q11_4), (0, .ref (G.1 0)), (1, .int a1)]) hx0 hb d_Md_shareSum_53 hl (k := 2) rfl rfl (by decide) rfl (fun ls hl => ?_)
      refine lv_goto (tgt := 11) hx0 hb d_Md_shareSum_56 (by decide) ?_
      obtain rfl := Option.some.inj h
      exact hx _ _ _ hZ (lv_sub hl [0, 1, 3, 4] rfl)
  · replace hZ : ZZT G s q2.2.2 H locs := hZ
    replace hl : lv_has ls 6 [(2, .long q2.1)] := hl
    refine lv_lload_n hx0 hb d_Md_shareSum_59 rfl (lv_at hl 0 rfl) ?_
    obtain rfl := Option.some.inj h
    exact z_lretT hx0 hb hr hZ hlocks hQ d_Md_shareSum_60
abbrev rm_Md_setSum : Room := ({ frames := 2, cells := 0, slots := 0, locals := 47 } : Room)
set_option maxHeartbeats 4000000 in
set_option maxRecDepth 100000 in
theorem c_Md_setSum (l : Launch) (G : zG) (a1 : Int32) (M : Mem) (r : Int64 × Mem) (h : p_Md_setSum a1 M = some r) : MetZT l G y_Md_setSum (Cond.code y_Md_setSum b_Md_setSum 7 (some .long) :: zws) rm_Md_setSum [.ref (G.1 0), .int a1] M (some (.long r.1)) r.2 := by
  unfold p_Md_setSum at h
  refine z_ofWT (lv := [(0, .ref (G.1 0)), (1, .int a1)]) (by decide) (Nat.le_of_ble_eq_true rfl) rfl (fun p e R s m args below meth c Q ls F hl hZ => ?_)
  obtain ⟨hx0, hb, hml, hr, hts, hown, hlocks, rfl, hQ⟩ := F
  refine lv_aload_n hx0 hb d_Md_setSum_0 rfl (lv_at hl 0 rfl) ?_
  refine lv_iconst (v := (0 : Int32)) hx0 hb d_Md_setSum_1 (by decide) ?_
  refine lv_iconst (v := (0 : Int32)) hx0 hb d_Md_setSum_2 (by decide) ?_
  obtain ⟨q1, hc3, h⟩ := bnd_some h
  refine k_Md_Md_listParts [.int (0 : Int32), .int (0 : Int32)] hx0 hb hml hts hown (c_Md_listParts l G (0 : Int32) (0 : Int32) M q1 hc3) hZ rfl rfl ⟨Nat.le_of_ble_eq_true rfl, Nat.le_of_ble_eq_true rfl⟩ hl.1 rfl (Nat.le_of_ble_eq_true rfl) d_Md_setSum_3 (fun H locs hZ => ?_)
  refine lv_lconst (v := (0 : Int64)) hx0 hb d_Md_setSum_6 (by decide) ?_
  refine lv_lstore_n (lv' := [(2, .long (0 : Int64)), (0, .ref (G.1 0)), (1, .int a1)]) hx0 hb d_Md_setSum_7 rfl hl (by decide) rfl (fun ls hl => ?_)
  refine lv_iconst (v := (0 : Int32)) hx0 hb d_Md_setSum_8 (by decide) ?_
  refine lv_istore (lv' := [(4, .int (0 : Int32)), (2, .long (0 : Int64)), (0, .ref (G.1 0)), (1, .int a1)]) hx0 hb d_Md_setSum_9 hl (by decide) rfl (fun ls hl => ?_)
  obtain ⟨q2, hq4, h⟩ := bnd_some h
  refine W_itr (At := fun (s0 : Int64 × Int32) => ∀ (H : Heap) (locs : List Loc) (ls : Array Slot), ZZT G s q1 H locs → lv_has ls 7 [(4, .int s0.2), (2, .long s0.1), (0, .ref (G.1 0)), (1, .int a1)] → W p l e rm_Md_setSum s m args below meth c H locs 0 0 Q (F0 m 11 ls [])) (Ex := fun (q0 : Int64 × Int32) => ∀ (H : Heap) (locs : List Loc) (ls : Array Slot), ZZT G s q1 H locs → lv_has ls 7 [(2, .long q0.1)] → W p l e rm_Md_setSum s m args below meth c H locs 0 0 Q (F0 m 107 ls [])) (fun s0 x h hx => ?_) _ _ q2 hq4 (fun H locs ls hZ hl => ?_) _ _ _ hZ (lv_sub hl [0, 1, 2, 3] rfl)
  · obtain ⟨x2_11, x4_11⟩ := s0
    replace h : p_Md_setSum_L11 a1 q1 x2_11 x4_11 = some x := h
    unfold p_Md_setSum_L11 at h
    intro H locs ls hZ hl
    replace hZ : ZZT G s q1 H locs := hZ
    replace hl : lv_has ls 7 [(4, .int x4_11), (2, .long x2_11), (0, .ref (G.1 0)), (1, .int a1)] := hl
    refine lv_iload hx0 hb d_Md_setSum_11 (lv_at hl 0 rfl) ?_
    refine lv_iconst (v := (1 : Int32)) hx0 hb d_Md_setSum_13 (by decide) ?_
    refine lv_aload_n hx0 hb d_Md_setSum_14 rfl (lv_at hl 2 rfl) ?_
    refine fg_Md_many hx0 hb hts hown hZ d_Md_setSum_15 ?_
    refine lv_ishl hx0 hb d_Md_setSum_18 ?_
    refine lv_icmp_ge (tgt := 107) hx0 hb d_Md_setSum_19 (by decide) (fun c11_1 => ?_) (fun c11_1 => ?_)
    · replace h := (if_pos c11_1).symm.trans h
      obtain rfl := Option.some.inj h
      exact hx _ _ _ hZ (lv_sub hl [1] rfl)
    · replace h := (if_neg c11_1).symm.trans h
      refine lv_iconst (v := (0 : Int32)) hx0 hb d_Md_setSum_22 (by decide) ?_
      refine lv_istore (lv' := [(5, .int (0 : Int32)), (4, .int x4_11), (2, .long x2_11), (0, .ref (G.1 0)), (1, .int a1)]) hx0 hb d_Md_setSum_23 hl (by decide) rfl (fun ls hl => ?_)
      refine lv_iconst (v := (0 : Int32)) hx0 hb d_Md_setSum_25 (by decide) ?_
      refine lv_istore (lv' := [(6, .int (0 : Int32)), (5, .int (0 : Int32)), (4, .int x4_11), (2, .long x2_11), (0, .ref (G.1 0)), (1, .int a1)]) hx0 hb d_Md_setSum_26 hl (by decide) rfl (fun ls hl => ?_)
      obtain ⟨q11_2, hq5, h⟩ := bnd_some h
      refine W_itr (At := fun (s0 : Int32 × Int32) => ∀ (H : Heap) (locs : List Loc) (ls : Array Slot), ZZT G s q1 H locs → lv_has ls 7 [(6, .int s0.2), (5, .int s0.1), (4, .int x4_11), (2, .long x2_11), (0, .ref (G.1 0)), (1, .int a1)] → W p l e rm_Md_setSum s m args below meth c H locs 0 0 Q (F0 m 28 ls [])) (Ex := fun (q0 : Int32 × Int32) => ∀ (H : Heap) (locs : List Loc) (ls : Array Slot), ZZT G s q1 H locs → lv_has ls 7 [(5, .int q0.1), (4, .int x4_11), (2, .long x2_11), (0, .ref (G.1 0)), (1, .int a1)] → W p l e rm_Md_setSum s m args below meth c H locs 0 0 Q (F0 m 70 ls [])) (fun s0 x h hx => ?_) _ _ q11_2 hq5 (fun H locs ls hZ hl => ?_) _ _ _ hZ (lv_sub hl [0, 1, 2, 3, 4, 5] rfl)
      · obtain ⟨x5_28, x6_28⟩ := s0
        replace h : p_Md_setSum_L28 q1 x4_11 x5_28 x6_28 = some x := h
        unfold p_Md_setSum_L28 at h
        intro H locs ls hZ hl
        replace hZ : ZZT G s q1 H locs := hZ
        replace hl : lv_has ls 7 [(6, .int x6_28), (5, .int x5_28), (4, .int x4_11), (2, .long x2_11), (0, .ref (G.1 0)), (1, .int a1)] := hl
        refine lv_iload hx0 hb d_Md_setSum_28 (lv_at hl 0 rfl) ?_
        refine lv_aload_n hx0 hb d_Md_setSum_30 rfl (lv_at hl 4 rfl) ?_
        refine fg_Md_many hx0 hb hts hown hZ d_Md_setSum_31 ?_
        refine lv_icmp_ge (tgt := 70) hx0 hb d_Md_setSum_34 (by decide) (fun c28_1 => ?_) (fun c28_1 => ?_)
        · replace h := (if_pos c28_1).symm.trans h
          obtain rfl := Option.some.inj h
          exact hx _ _ _ hZ (lv_sub hl [1, 2, 3, 4, 5] rfl)
        · replace h := (if_neg c28_1).symm.trans h
          refine lv_iload hx0 hb d_Md_setSum_37 (lv_at hl 1 rfl) ?_
          refine lv_iload hx0 hb d_Md_setSum_39 (lv_at hl 2 rfl) ?_
          refine lv_iload hx0 hb d_Md_setSum_41 (lv_at hl 0 rfl) ?_
          refine lv_ishr hx0 hb d_Md_setSum_43 ?_
          refine lv_iconst (v := (1 : Int32)) hx0 hb d_Md_setSum_44 (by decide) ?_
          refine lv_iand hx0 hb d_Md_setSum_45 ?_
          refine lv_iconst (v := (1 : Int32)) hx0 hb d_Md_setSum_46 (by decide) ?_
          refine lv_icmp_ne (tgt := 60) hx0 hb d_Md_setSum_47 (by decide) (fun c28_2 => ?_) (fun c28_2 => ?_)
          · replace h := (if_neg c28_2).symm.trans h
            refine lv_iconst (v := (0 : Int32)) hx0 hb d_Md_setSum_60 (by decide) ?_
            refine lv_ior hx0 hb d_Md_setSum_61 ?_
            refine lv_istore (lv' := [(5, .int (x5_28 ||| (0 : Int32))), (6, .int x6_28), (4, .int x4_11), (2, .long x2_11), (0, .ref (G.1 0)), (1, .int a1)]) hx0 hb d_Md_setSum_62 hl (by decide) rfl (fun ls hl => ?_)
            refine lv_iinc (v := (x6_28 + (1 : Int32))) (lv' := [(6, .int (x6_28 + (1 : Int32))), (5, .int (x5_28 ||| (0 : Int32))), (4, .int x4_11), (2, .long x2_11), (0, .ref (G.1 0)), (1, .int a1)]) hx0 hb d_Md_setSum_64 hl (k := 1) rfl rfl (by decide) rfl (fun ls hl => ?_)
            refine lv_goto (tgt := 28) hx0 hb d_Md_setSum_67 (by decide) ?_
            obtain rfl := Option.some.inj h
            exact hx _ _ _ hZ (lv_sub hl [0, 1, 2, 3, 4, 5] rfl)
          · replace h := (if_pos c28_2).symm.trans h
            refine lv_aload_n hx0 hb d_Md_setSum_50 rfl (lv_at hl 4 rfl) ?_
            refine fg_Md_parts hx0 hb hts hown hZ d_Md_setSum_51 ?_
            refine lv_iload hx0 hb d_Md_setSum_54 (lv_at hl 0 rfl) ?_
            obtain ⟨hi28_3, h⟩ := chk_some h
            refine z_ialoadT (k := 13) hx0 hb hZ hi28_3 d_Md_setSum_56 ?_
            refine lv_goto (tgt := 61) hx0 hb d_Md_setSum_57 (by decide) ?_
            refine lv_ior hx0 hb d_Md_setSum_61 ?_
            refine lv_istore (lv' := [(5, .int (x5_28 ||| (q1.1 13 (Int32.toNatClampNeg x6_28)))), (6, .int x6_28), (4, .int x4_11), (2, .long x2_11), (0, .ref (G.1 0)), (1, .int a1)]) hx0 hb d_Md_setSum_62 hl (by decide) rfl (fun ls hl => ?_)
            refine lv_iinc (v := (x6_28 + (1 : Int32))) (lv' := [(6, .int (x6_28 + (1 : Int32))), (5, .int (x5_28 ||| (q1.1 13 (Int32.toNatClampNeg x6_28)))), (4, .int x4_11), (2, .long x2_11), (0, .ref (G.1 0)), (1, .int a1)]) hx0 hb d_Md_setSum_64 hl (k := 1) rfl rfl (by decide) rfl (fun ls hl => ?_)
            refine lv_goto (tgt := 28) hx0 hb d_Md_setSum_67 (by decide) ?_
            obtain rfl := Option.some.inj h
            exact hx _ _ _ hZ (lv_sub hl [0, 1, 2, 3, 4, 5] rfl)
      · replace hZ : ZZT G s q1 H locs := hZ
        replace hl : lv_has ls 7 [(5, .int q11_2.1), (4, .int x4_11), (2, .long x2_11), (0, .ref (G.1 0)), (1, .int a1)] := hl
        refine lv_lload_n hx0 hb d_Md_setSum_70 rfl (lv_at hl 2 rfl) ?_
        refine lv_iload hx0 hb d_Md_setSum_71 (lv_at hl 0 rfl) ?_
        refine lv_iload_n hx0 hb d_Md_setSum_73 rfl (lv_at hl 4 rfl) ?_
        refine lv_iand hx0 hb d_Md_setSum_74 ?_
        refine lv_if_ne (tgt := 98) hx0 hb d_Md_setSum_75 (by decide) (fun c11_3 => ?_) (fun c11_3 => ?_)
        · replace h := (if_neg c11_3).symm.trans h
          refine lv_lconst (v := (0 : Int64)) hx0 hb d_Md_setSum_98 (by decide) ?_
          refine lv_ladd hx0 hb d_Md_setSum_99 ?_
          refine lv_lstore_n (lv' := [(2, .long (x2_11 + (0 : Int64))), (5, .int q11_2.1), (4, .int x4_11), (0, .ref (G.1 0)), (1, .int a1)]) hx0 hb d_Md_setSum_100 rfl hl (by decide) rfl (fun ls hl => ?_)
          refine lv_iinc (v := (x4_11 + (1 : Int32))) (lv' := [(4, .int (x4_11 + (1 : Int32))), (2, .long (x2_11 + (0 : Int64))), (5, .int q11_2.1), (0, .ref (G.1 0)), (1, .int a1)]) hx0 hb d_Md_setSum_101 hl (k := 2) rfl rfl (by decide) rfl (fun ls hl => ?_)
          refine lv_goto (tgt := 11) hx0 hb d_Md_setSum_104 (by decide) ?_
          obtain rfl := Option.some.inj h
          exact hx _ _ _ hZ (lv_sub hl [0, 1, 3, 4] rfl)
        · replace h := (if_pos c11_3).symm.trans h
          refine lv_aload_n hx0 hb d_Md_setSum_78 rfl (lv_at hl 3 rfl) ?_
          refine fg_Md_sums hx0 hb hts hown hZ d_Md_setSum_79 ?_
          refine lv_iload hx0 hb d_Md_setSum_82 (lv_at hl 0 rfl) ?_
          refine lv_iload_n hx0 hb d_Md_setSum_84 rfl (lv_at hl 4 rfl) ?_
          refine lv_ior hx0 hb d_Md_setSum_85 ?_
          obtain ⟨hi11_4, h⟩ := chk_some h
          refine z_laloadT (k := 12) hx0 hb hZ hi11_4 d_Md_setSum_86 ?_
          refine lv_aload_n hx0 hb d_Md_setSum_87 rfl (lv_at hl 3 rfl) ?_
          refine fg_Md_sums hx0 hb hts hown hZ d_Md_setSum_88 ?_
          refine lv_iload hx0 hb d_Md_setSum_91 (lv_at hl 0 rfl) ?_
          obtain ⟨hi11_5, h⟩ := chk_some h
          refine z_laloadT (k := 12) hx0 hb hZ hi11_5 d_Md_setSum_93 ?_
          refine lv_lsub hx0 hb d_Md_setSum_94 ?_
          refine lv_goto (tgt := 99) hx0 hb d_Md_setSum_95 (by decide) ?_
          refine lv_ladd hx0 hb d_Md_setSum_99 ?_
          refine lv_lstore_n (lv' := [(2, .long (x2_11 + ((q1.2 12 (Int32.toNatClampNeg (q11_2.1 ||| a1))) - (q1.2 12 (Int32.toNatClampNeg q11_2.1))))), (5, .int q11_2.1), (4, .int x4_11), (0, .ref (G.1 0)), (1, .int a1)]) hx0 hb d_Md_setSum_100 rfl hl (by decide) rfl (fun ls hl => ?_)
          refine lv_iinc (v := (x4_11 + (1 : Int32))) (lv' := [(4, .int (x4_11 + (1 : Int32))), (2, .long (x2_11 + ((q1.2 12 (Int32.toNatClampNeg (q11_2.1 ||| a1))) - (q1.2 12 (Int32.toNatClampNeg q11_2.1))))), (5, .int q11_2.1), (0, .ref (G.1 0)), (1, .int a1)]) hx0 hb d_Md_setSum_101 hl (k := 2) rfl rfl (by decide) rfl (fun ls hl => ?_)
          refine lv_goto (tgt := 11) hx0 hb d_Md_setSum_104 (by decide) ?_
          obtain rfl := Option.some.inj h
          exact hx _ _ _ hZ (lv_sub hl [0, 1, 3, 4] rfl)
  · replace hZ : ZZT G s q1 H locs := hZ
    replace hl : lv_has ls 7 [(2, .long q2.1)] := hl
    refine lv_lload_n hx0 hb d_Md_setSum_107 rfl (lv_at hl 0 rfl) ?_
    obtain rfl := Option.some.inj h
    exact z_lretT hx0 hb hr hZ hlocks hQ d_Md_setSum_108
abbrev rm_Md_share : Room := ({ frames := 3, cells := 0, slots := 0, locals := 73 } : Room)
set_option maxHeartbeats 4000000 in
set_option maxRecDepth 100000 in
theorem c_Md_share (l : Launch) (G : zG) (a1 : Int32) (a2 : Int32) (a3 : Int32) (M : Mem) (r : Int64 × Mem) (h : p_Md_share a1 a2 a3 M = some r) : MetZT l G y_Md_share (Cond.code y_Md_share b_Md_share 7 (some .long) :: zws) rm_Md_share [.ref (G.1 0), .int a1, .int a2, .int a3] M (some (.long r.1)) r.2 := by
  unfold p_Md_share at h
  refine z_ofWT (lv := [(0, .ref (G.1 0)), (1, .int a1), (2, .int a2), (3, .int a3)]) (by decide) (Nat.le_of_ble_eq_true rfl) rfl (fun p e R s m args below meth c Q ls F hl hZ => ?_)
  obtain ⟨hx0, hb, hml, hr, hts, hown, hlocks, rfl, hQ⟩ := F
  refine lv_aload_n hx0 hb d_Md_share_0 rfl (lv_at hl 0 rfl) ?_
  refine lv_iconst (v := (0 : Int32)) hx0 hb d_Md_share_1 (by decide) ?_
  refine fp_Md_code hx0 hb hts hown hZ d_Md_share_2 (fun H locs hZ => ?_)
  obtain ⟨m1, em1, h⟩ := nm_some h
  rw [em1] at hZ
  refine lv_aload_n hx0 hb d_Md_share_5 rfl (lv_at hl 0 rfl) ?_
  refine lv_iload_n hx0 hb d_Md_share_6 rfl (lv_at hl 1 rfl) ?_
  obtain ⟨q2, hc37, h⟩ := bnd_some h
  refine k_Md_Md_isColumn [.int a1] hx0 hb hml hts hown (c_Md_isColumn l G a1 m1 q2 hc37) hZ rfl rfl ⟨Nat.le_of_ble_eq_true rfl, Nat.le_of_ble_eq_true rfl⟩ hl.1 rfl (Nat.le_of_ble_eq_true rfl) d_Md_share_7 (fun H locs hZ => ?_)
  refine lv_if_eq (tgt := 31) hx0 hb d_Md_share_10 (by decide) (fun c3 => ?_) (fun c3 => ?_)
  · replace h := (if_pos c3).symm.trans h
    refine lv_ldc2 (v := (-1000000000000 : Int64)) hx0 hb hown (hts _ wk_Md_91) d_Md_share_31 ?_
    obtain rfl := Option.some.inj h
    exact z_lretT hx0 hb hr hZ hlocks hQ d_Md_share_34
  · replace h := (if_neg c3).symm.trans h
    refine lv_iload_n hx0 hb d_Md_share_13 rfl (lv_at hl 2 rfl) ?_
    refine lv_iconst (v := (0 : Int32)) hx0 hb d_Md_share_14 (by decide) ?_
    refine lv_iconst (v := (1 : Int32)) hx0 hb d_Md_share_15 (by decide) ?_
    obtain ⟨q4, hc36, h⟩ := bnd_some h
    refine k_Md_Md_in [.int a2, .int (0 : Int32), .int (1 : Int32)] hx0 hb hml hts hown (c_Md_in l G a2 (0 : Int32) (1 : Int32) m1 q4 hc36) hZ rfl rfl ⟨Nat.le_of_ble_eq_true rfl, Nat.le_of_ble_eq_true rfl⟩ hl.1 rfl (Nat.le_of_ble_eq_true rfl) d_Md_share_16 (fun H locs hZ => ?_)
    refine lv_if_eq (tgt := 31) hx0 hb d_Md_share_19 (by decide) (fun c5 => ?_) (fun c5 => ?_)
    · replace h := (if_pos c5).symm.trans h
      refine lv_ldc2 (v := (-1000000000000 : Int64)) hx0 hb hown (hts _ wk_Md_91) d_Md_share_31 ?_
      obtain rfl := Option.some.inj h
      exact z_lretT hx0 hb hr hZ hlocks hQ d_Md_share_34
    · replace h := (if_neg c5).symm.trans h
      refine lv_iload_n hx0 hb d_Md_share_22 rfl (lv_at hl 3 rfl) ?_
      refine lv_iconst (v := (0 : Int32)) hx0 hb d_Md_share_23 (by decide) ?_
      refine lv_iconst (v := (1 : Int32)) hx0 hb d_Md_share_24 (by decide) ?_
      obtain ⟨q6, hc35, h⟩ := bnd_some h
      refine k_Md_Md_in [.int a3, .int (0 : Int32), .int (1 : Int32)] hx0 hb hml hts hown (c_Md_in l G a3 (0 : Int32) (1 : Int32) m1 q6 hc35) hZ rfl rfl ⟨Nat.le_of_ble_eq_true rfl, Nat.le_of_ble_eq_true rfl⟩ hl.1 rfl (Nat.le_of_ble_eq_true rfl) d_Md_share_25 (fun H locs hZ => ?_)
      refine lv_if_ne (tgt := 35) hx0 hb d_Md_share_28 (by decide) (fun c7 => ?_) (fun c7 => ?_)
      · replace h := (if_neg c7).symm.trans h
        refine lv_aload_n hx0 hb d_Md_share_35 rfl (lv_at hl 0 rfl) ?_
        obtain ⟨q8, hc34, h⟩ := bnd_some h
        refine k_Md_Md_throwsNow [] hx0 hb hml hts hown (c_Md_throwsNow l G  m1 q8 hc34) hZ rfl rfl ⟨Nat.le_of_ble_eq_true rfl, Nat.le_of_ble_eq_true rfl⟩ hl.1 rfl (Nat.le_of_ble_eq_true rfl) d_Md_share_36 (fun H locs hZ => ?_)
        refine lv_if_eq (tgt := 44) hx0 hb d_Md_share_39 (by decide) (fun c9 => ?_) (fun c9 => ?_)
        · replace h := (if_pos c9).symm.trans h
          refine lv_aload_n hx0 hb d_Md_share_44 rfl (lv_at hl 0 rfl) ?_
          obtain ⟨q10, hc33, h⟩ := bnd_some h
          refine k_Md_Md_sumAll [] hx0 hb hml hts hown (c_Md_sumAll l G  q8.2 q10 hc33) hZ rfl rfl ⟨Nat.le_of_ble_eq_true rfl, Nat.le_of_ble_eq_true rfl⟩ hl.1 rfl (Nat.le_of_ble_eq_true rfl) d_Md_share_45 (fun H locs hZ => ?_)
          refine lv_aload_n hx0 hb d_Md_share_48 rfl (lv_at hl 0 rfl) ?_
          refine lv_aload_n hx0 hb d_Md_share_49 rfl (lv_at hl 0 rfl) ?_
          refine fg_Md_groups hx0 hb hts hown hZ d_Md_share_50 ?_
          refine lv_iload_n hx0 hb d_Md_share_53 rfl (lv_at hl 1 rfl) ?_
          obtain ⟨hi11, h⟩ := chk_some h
          refine z_ialoadT (k := 8) hx0 hb hZ hi11 d_Md_share_54 ?_
          obtain ⟨q12, hc32, h⟩ := bnd_some h
          refine k_Md_Md_groupBits [.int (q10.1 8 (Int32.toNatClampNeg a1))] hx0 hb hml hts hown (c_Md_groupBits l G (q10.1 8 (Int32.toNatClampNeg a1)) q10 q12 hc32) hZ rfl rfl ⟨Nat.le_of_ble_eq_true rfl, Nat.le_of_ble_eq_true rfl⟩ hl.1 rfl (Nat.le_of_ble_eq_true rfl) d_Md_share_55 (fun H locs hZ => ?_)
          refine lv_istore (lv' := [(4, .int q12), (0, .ref (G.1 0)), (1, .int a1), (2, .int a2), (3, .int a3)]) hx0 hb d_Md_share_58 hl (by decide) rfl (fun ls hl => ?_)
          refine lv_iload_n hx0 hb d_Md_share_60 rfl (lv_at hl 3 rfl) ?_
          refine lv_if_ne (tgt := 73) hx0 hb d_Md_share_61 (by decide) (fun c13 => ?_) (fun c13 => ?_)
          · replace h := (if_neg c13).symm.trans h
            refine lv_aload_n hx0 hb d_Md_share_73 rfl (lv_at hl 1 rfl) ?_
            refine lv_iload hx0 hb d_Md_share_74 (lv_at hl 0 rfl) ?_
            obtain ⟨q14, hc22, h⟩ := bnd_some h
            refine k_Md_Md_setSum [.int q12] hx0 hb hml hts hown (c_Md_setSum l G q12 q10 q14 hc22) hZ rfl rfl ⟨Nat.le_of_ble_eq_true rfl, Nat.le_of_ble_eq_true rfl⟩ hl.1 rfl (Nat.le_of_ble_eq_true rfl) d_Md_share_76 (fun H locs hZ => ?_)
            refine lv_lstore (lv' := [(5, .long q14.1), (4, .int q12), (0, .ref (G.1 0)), (1, .int a1), (2, .int a2), (3, .int a3)]) hx0 hb d_Md_share_79 hl (by decide) rfl (fun ls hl => ?_)
            refine lv_lload hx0 hb d_Md_share_81 (lv_at hl 0 rfl) ?_
            refine lv_aload_n hx0 hb d_Md_share_83 rfl (lv_at hl 2 rfl) ?_
            refine fg_Md_rows hx0 hb hts hown hZ d_Md_share_84 ?_
            refine lv_i2l (v := Int32.toInt64 (q14.2.1 0 13)) hx0 hb d_Md_share_87 rfl ?_
            refine lv_iload_n hx0 hb d_Md_share_88 rfl (lv_at hl 4 rfl) ?_
            refine lv_if_ne (tgt := 99) hx0 hb d_Md_share_89 (by decide) (fun c15 => ?_) (fun c15 => ?_)
            · replace h := (if_neg c15).symm.trans h
              refine lv_iconst (v := (1 : Int32)) hx0 hb d_Md_share_99 (by decide) ?_
              refine lv_aload_n hx0 hb d_Md_share_100 rfl (lv_at hl 2 rfl) ?_
              refine fg_Md_many hx0 hb hts hown hZ d_Md_share_101 ?_
              refine lv_iconst (v := (1 : Int32)) hx0 hb d_Md_share_104 (by decide) ?_
              refine lv_isub hx0 hb d_Md_share_105 ?_
              refine lv_ishl hx0 hb d_Md_share_106 ?_
              refine lv_i2l (v := Int32.toInt64 ((1 : Int32) <<< (((q14.2.1 0 17) - (1 : Int32)) &&& 31))) hx0 hb d_Md_share_107 rfl ?_
              refine lv_lmul hx0 hb d_Md_share_108 ?_
              refine lv_iload_n hx0 hb d_Md_share_109 rfl (lv_at hl 5 rfl) ?_
              obtain ⟨q16, hc17, h⟩ := bnd_some h
              refine k_Md_Md_part [.long q14.1, .long ((Int32.toInt64 (q14.2.1 0 13)) * (Int32.toInt64 ((1 : Int32) <<< (((q14.2.1 0 17) - (1 : Int32)) &&& 31)))), .int a3] hx0 hb hml hts hown (c_Md_part l G q14.1 ((Int32.toInt64 (q14.2.1 0 13)) * (Int32.toInt64 ((1 : Int32) <<< (((q14.2.1 0 17) - (1 : Int32)) &&& 31)))) a3 q14.2 q16 hc17) hZ rfl rfl ⟨Nat.le_of_ble_eq_true rfl, Nat.le_of_ble_eq_true rfl⟩ hl.1 rfl (Nat.le_of_ble_eq_true rfl) d_Md_share_110 (fun H locs hZ => ?_)
              obtain rfl := Option.some.inj h
              exact z_lretT hx0 hb hr hZ hlocks hQ d_Md_share_113
            · replace h := (if_pos c15).symm.trans h
              refine lv_aload_n hx0 hb d_Md_share_92 rfl (lv_at hl 2 rfl) ?_
              obtain ⟨q18, hc21, h⟩ := bnd_some h
              refine k_Md_Md_orders [] hx0 hb hml hts hown (c_Md_orders l G  q14.2 q18 hc21) hZ rfl rfl ⟨Nat.le_of_ble_eq_true rfl, Nat.le_of_ble_eq_true rfl⟩ hl.1 rfl (Nat.le_of_ble_eq_true rfl) d_Md_share_93 (fun H locs hZ => ?_)
              refine lv_goto (tgt := 107) hx0 hb d_Md_share_96 (by decide) ?_
              refine lv_i2l (v := Int32.toInt64 q18) hx0 hb d_Md_share_107 rfl ?_
              refine lv_lmul hx0 hb d_Md_share_108 ?_
              refine lv_iload_n hx0 hb d_Md_share_109 rfl (lv_at hl 5 rfl) ?_
              obtain ⟨q19, hc20, h⟩ := bnd_some h
              refine k_Md_Md_part [.long q14.1, .long ((Int32.toInt64 (q14.2.1 0 13)) * (Int32.toInt64 q18)), .int a3] hx0 hb hml hts hown (c_Md_part l G q14.1 ((Int32.toInt64 (q14.2.1 0 13)) * (Int32.toInt64 q18)) a3 q14.2 q19 hc20) hZ rfl rfl ⟨Nat.le_of_ble_eq_true rfl, Nat.le_of_ble_eq_true rfl⟩ hl.1 rfl (Nat.le_of_ble_eq_true rfl) d_Md_share_110 (fun H locs hZ => ?_)
              obtain rfl := Option.some.inj h
              exact z_lretT hx0 hb hr hZ hlocks hQ d_Md_share_113
          · replace h := (if_pos c13).symm.trans h
            refine lv_aload_n hx0 hb d_Md_share_64 rfl (lv_at hl 1 rfl) ?_
            refine lv_iload hx0 hb d_Md_share_65 (lv_at hl 0 rfl) ?_
            obtain ⟨q23, hc31, h⟩ := bnd_some h
            refine k_Md_Md_shareSum [.int q12] hx0 hb hml hts hown (c_Md_shareSum l G q12 q10 q23 hc31) hZ rfl rfl ⟨Nat.le_of_ble_eq_true rfl, Nat.le_of_ble_eq_true rfl⟩ hl.1 rfl (Nat.le_of_ble_eq_true rfl) d_Md_share_67 (fun H locs hZ => ?_)
            refine lv_goto (tgt := 79) hx0 hb d_Md_share_70 (by decide) ?_
            refine lv_lstore (lv' := [(5, .long q23.1), (4, .int q12), (0, .ref (G.1 0)), (1, .int a1), (2, .int a2), (3, .int a3)]) hx0 hb d_Md_share_79 hl (by decide) rfl (fun ls hl => ?_)
            refine lv_lload hx0 hb d_Md_share_81 (lv_at hl 0 rfl) ?_
            refine lv_aload_n hx0 hb d_Md_share_83 rfl (lv_at hl 2 rfl) ?_
            refine fg_Md_rows hx0 hb hts hown hZ d_Md_share_84 ?_
            refine lv_i2l (v := Int32.toInt64 (q23.2.1 0 13)) hx0 hb d_Md_share_87 rfl ?_
            refine lv_iload_n hx0 hb d_Md_share_88 rfl (lv_at hl 4 rfl) ?_
            refine lv_if_ne (tgt := 99) hx0 hb d_Md_share_89 (by decide) (fun c24 => ?_) (fun c24 => ?_)
            · replace h := (if_neg c24).symm.trans h
              refine lv_iconst (v := (1 : Int32)) hx0 hb d_Md_share_99 (by decide) ?_
              refine lv_aload_n hx0 hb d_Md_share_100 rfl (lv_at hl 2 rfl) ?_
              refine fg_Md_many hx0 hb hts hown hZ d_Md_share_101 ?_
              refine lv_iconst (v := (1 : Int32)) hx0 hb d_Md_share_104 (by decide) ?_
              refine lv_isub hx0 hb d_Md_share_105 ?_
              refine lv_ishl hx0 hb d_Md_share_106 ?_
              refine lv_i2l (v := Int32.toInt64 ((1 : Int32) <<< (((q23.2.1 0 17) - (1 : Int32)) &&& 31))) hx0 hb d_Md_share_107 rfl ?_
              refine lv_lmul hx0 hb d_Md_share_108 ?_
              refine lv_iload_n hx0 hb d_Md_share_109 rfl (lv_at hl 5 rfl) ?_
              obtain ⟨q25, hc26, h⟩ := bnd_some h
              refine k_Md_Md_part [.long q23.1, .long ((Int32.toInt64 (q23.2.1 0 13)) * (Int32.toInt64 ((1 : Int32) <<< (((q23.2.1 0 17) - (1 : Int32)) &&& 31)))), .int a3] hx0 hb hml hts hown (c_Md_part l G q23.1 ((Int32.toInt64 (q23.2.1 0 13)) * (Int32.toInt64 ((1 : Int32) <<< (((q23.2.1 0 17) - (1 : Int32)) &&& 31)))) a3 q23.2 q25 hc26) hZ rfl rfl ⟨Nat.le_of_ble_eq_true rfl, Nat.le_of_ble_eq_true rfl⟩ hl.1 rfl (Nat.le_of_ble_eq_true rfl) d_Md_share_110 (fun H locs hZ => ?_)
              obtain rfl := Option.some.inj h
              exact z_lretT hx0 hb hr hZ hlocks hQ d_Md_share_113
            · replace h := (if_pos c24).symm.trans h
              refine lv_aload_n hx0 hb d_Md_share_92 rfl (lv_at hl 2 rfl) ?_
              obtain ⟨q27, hc30, h⟩ := bnd_some h
              refine k_Md_Md_orders [] hx0 hb hml hts hown (c_Md_orders l G  q23.2 q27 hc30) hZ rfl rfl ⟨Nat.le_of_ble_eq_true rfl, Nat.le_of_ble_eq_true rfl⟩ hl.1 rfl (Nat.le_of_ble_eq_true rfl) d_Md_share_93 (fun H locs hZ => ?_)
              refine lv_goto (tgt := 107) hx0 hb d_Md_share_96 (by decide) ?_
              refine lv_i2l (v := Int32.toInt64 q27) hx0 hb d_Md_share_107 rfl ?_
              refine lv_lmul hx0 hb d_Md_share_108 ?_
              refine lv_iload_n hx0 hb d_Md_share_109 rfl (lv_at hl 5 rfl) ?_
              obtain ⟨q28, hc29, h⟩ := bnd_some h
              refine k_Md_Md_part [.long q23.1, .long ((Int32.toInt64 (q23.2.1 0 13)) * (Int32.toInt64 q27)), .int a3] hx0 hb hml hts hown (c_Md_part l G q23.1 ((Int32.toInt64 (q23.2.1 0 13)) * (Int32.toInt64 q27)) a3 q23.2 q28 hc29) hZ rfl rfl ⟨Nat.le_of_ble_eq_true rfl, Nat.le_of_ble_eq_true rfl⟩ hl.1 rfl (Nat.le_of_ble_eq_true rfl) d_Md_share_110 (fun H locs hZ => ?_)
              obtain rfl := Option.some.inj h
              exact z_lretT hx0 hb hr hZ hlocks hQ d_Md_share_113
        · replace h := (if_neg c9).symm.trans h
          refine lv_lconst (v := (0 : Int64)) hx0 hb d_Md_share_42 (by decide) ?_
          obtain rfl := Option.some.inj h
          exact z_lretT hx0 hb hr hZ hlocks hQ d_Md_share_43
      · replace h := (if_pos c7).symm.trans h
        refine lv_ldc2 (v := (-1000000000000 : Int64)) hx0 hb hown (hts _ wk_Md_91) d_Md_share_31 ?_
        obtain rfl := Option.some.inj h
        exact z_lretT hx0 hb hr hZ hlocks hQ d_Md_share_34
abbrev rm_Md_both : Room := ({ frames := 2, cells := 0, slots := 0, locals := 47 } : Room)
set_option maxHeartbeats 4000000 in
set_option maxRecDepth 100000 in
theorem c_Md_both (l : Launch) (G : zG) (a1 : Int32) (a2 : Int32) (a3 : Int32) (M : Mem) (r : Int64 × Mem) (h : p_Md_both a1 a2 a3 M = some r) : MetZT l G y_Md_both (Cond.code y_Md_both b_Md_both 10 (some .long) :: zws) rm_Md_both [.ref (G.1 0), .int a1, .int a2, .int a3] M (some (.long r.1)) r.2 := by
  unfold p_Md_both at h
  refine z_ofWT (lv := [(0, .ref (G.1 0)), (1, .int a1), (2, .int a2), (3, .int a3)]) (by decide) (Nat.le_of_ble_eq_true rfl) rfl (fun p e R s m args below meth c Q ls F hl hZ => ?_)
  obtain ⟨hx0, hb, hml, hr, hts, hown, hlocks, rfl, hQ⟩ := F
  refine lv_aload_n hx0 hb d_Md_both_0 rfl (lv_at hl 0 rfl) ?_
  refine lv_iconst (v := (0 : Int32)) hx0 hb d_Md_both_1 (by decide) ?_
  refine fp_Md_code hx0 hb hts hown hZ d_Md_both_2 (fun H locs hZ => ?_)
  obtain ⟨m1, em1, h⟩ := nm_some h
  rw [em1] at hZ
  refine lv_aload_n hx0 hb d_Md_both_5 rfl (lv_at hl 0 rfl) ?_
  refine lv_iload_n hx0 hb d_Md_both_6 rfl (lv_at hl 1 rfl) ?_
  obtain ⟨q2, hc31, h⟩ := bnd_some h
  refine k_Md_Md_isColumn [.int a1] hx0 hb hml hts hown (c_Md_isColumn l G a1 m1 q2 hc31) hZ rfl rfl ⟨Nat.le_of_ble_eq_true rfl, Nat.le_of_ble_eq_true rfl⟩ hl.1 rfl (Nat.le_of_ble_eq_true rfl) d_Md_both_7 (fun H locs hZ => ?_)
  refine lv_if_eq (tgt := 45) hx0 hb d_Md_both_10 (by decide) (fun c3 => ?_) (fun c3 => ?_)
  · replace h := (if_pos c3).symm.trans h
    refine lv_ldc2 (v := (-1000000000000 : Int64)) hx0 hb hown (hts _ wk_Md_91) d_Md_both_45 ?_
    obtain rfl := Option.some.inj h
    exact z_lretT hx0 hb hr hZ hlocks hQ d_Md_both_48
  · replace h := (if_neg c3).symm.trans h
    refine lv_aload_n hx0 hb d_Md_both_13 rfl (lv_at hl 0 rfl) ?_
    refine lv_iload_n hx0 hb d_Md_both_14 rfl (lv_at hl 2 rfl) ?_
    obtain ⟨q4, hc30, h⟩ := bnd_some h
    refine k_Md_Md_isColumn [.int a2] hx0 hb hml hts hown (c_Md_isColumn l G a2 m1 q4 hc30) hZ rfl rfl ⟨Nat.le_of_ble_eq_true rfl, Nat.le_of_ble_eq_true rfl⟩ hl.1 rfl (Nat.le_of_ble_eq_true rfl) d_Md_both_15 (fun H locs hZ => ?_)
    refine lv_if_eq (tgt := 45) hx0 hb d_Md_both_18 (by decide) (fun c5 => ?_) (fun c5 => ?_)
    · replace h := (if_pos c5).symm.trans h
      refine lv_ldc2 (v := (-1000000000000 : Int64)) hx0 hb hown (hts _ wk_Md_91) d_Md_both_45 ?_
      obtain rfl := Option.some.inj h
      exact z_lretT hx0 hb hr hZ hlocks hQ d_Md_both_48
    · replace h := (if_neg c5).symm.trans h
      refine lv_iload_n hx0 hb d_Md_both_21 rfl (lv_at hl 3 rfl) ?_
      refine lv_iconst (v := (0 : Int32)) hx0 hb d_Md_both_22 (by decide) ?_
      refine lv_iconst (v := (1 : Int32)) hx0 hb d_Md_both_23 (by decide) ?_
      obtain ⟨q6, hc29, h⟩ := bnd_some h
      refine k_Md_Md_in [.int a3, .int (0 : Int32), .int (1 : Int32)] hx0 hb hml hts hown (c_Md_in l G a3 (0 : Int32) (1 : Int32) m1 q6 hc29) hZ rfl rfl ⟨Nat.le_of_ble_eq_true rfl, Nat.le_of_ble_eq_true rfl⟩ hl.1 rfl (Nat.le_of_ble_eq_true rfl) d_Md_both_24 (fun H locs hZ => ?_)
      refine lv_if_eq (tgt := 45) hx0 hb d_Md_both_27 (by decide) (fun c7 => ?_) (fun c7 => ?_)
      · replace h := (if_pos c7).symm.trans h
        refine lv_ldc2 (v := (-1000000000000 : Int64)) hx0 hb hown (hts _ wk_Md_91) d_Md_both_45 ?_
        obtain rfl := Option.some.inj h
        exact z_lretT hx0 hb hr hZ hlocks hQ d_Md_both_48
      · replace h := (if_neg c7).symm.trans h
        refine lv_aload_n hx0 hb d_Md_both_30 rfl (lv_at hl 0 rfl) ?_
        refine fg_Md_groups hx0 hb hts hown hZ d_Md_both_31 ?_
        refine lv_iload_n hx0 hb d_Md_both_34 rfl (lv_at hl 1 rfl) ?_
        obtain ⟨hi8, h⟩ := chk_some h
        refine z_ialoadT (k := 8) hx0 hb hZ hi8 d_Md_both_35 ?_
        refine lv_aload_n hx0 hb d_Md_both_36 rfl (lv_at hl 0 rfl) ?_
        refine fg_Md_groups hx0 hb hts hown hZ d_Md_both_37 ?_
        refine lv_iload_n hx0 hb d_Md_both_40 rfl (lv_at hl 2 rfl) ?_
        obtain ⟨hi9, h⟩ := chk_some h
        refine z_ialoadT (k := 8) hx0 hb hZ hi9 d_Md_both_41 ?_
        refine lv_icmp_ne (tgt := 49) hx0 hb d_Md_both_42 (by decide) (fun c10 => ?_) (fun c10 => ?_)
        · replace h := (if_neg c10).symm.trans h
          refine lv_aload_n hx0 hb d_Md_both_49 rfl (lv_at hl 0 rfl) ?_
          obtain ⟨q11, hc28, h⟩ := bnd_some h
          refine k_Md_Md_throwsNow [] hx0 hb hml hts hown (c_Md_throwsNow l G  m1 q11 hc28) hZ rfl rfl ⟨Nat.le_of_ble_eq_true rfl, Nat.le_of_ble_eq_true rfl⟩ hl.1 rfl (Nat.le_of_ble_eq_true rfl) d_Md_both_50 (fun H locs hZ => ?_)
          refine lv_if_eq (tgt := 58) hx0 hb d_Md_both_53 (by decide) (fun c12 => ?_) (fun c12 => ?_)
          · replace h := (if_pos c12).symm.trans h
            refine lv_aload_n hx0 hb d_Md_both_58 rfl (lv_at hl 0 rfl) ?_
            obtain ⟨q13, hc27, h⟩ := bnd_some h
            refine k_Md_Md_sumAll [] hx0 hb hml hts hown (c_Md_sumAll l G  q11.2 q13 hc27) hZ rfl rfl ⟨Nat.le_of_ble_eq_true rfl, Nat.le_of_ble_eq_true rfl⟩ hl.1 rfl (Nat.le_of_ble_eq_true rfl) d_Md_both_59 (fun H locs hZ => ?_)
            refine lv_aload_n hx0 hb d_Md_both_62 rfl (lv_at hl 0 rfl) ?_
            refine lv_aload_n hx0 hb d_Md_both_63 rfl (lv_at hl 0 rfl) ?_
            refine fg_Md_groups hx0 hb hts hown hZ d_Md_both_64 ?_
            refine lv_iload_n hx0 hb d_Md_both_67 rfl (lv_at hl 1 rfl) ?_
            obtain ⟨hi14, h⟩ := chk_some h
            refine z_ialoadT (k := 8) hx0 hb hZ hi14 d_Md_both_68 ?_
            obtain ⟨q15, hc26, h⟩ := bnd_some h
            refine k_Md_Md_groupBits [.int (q13.1 8 (Int32.toNatClampNeg a1))] hx0 hb hml hts hown (c_Md_groupBits l G (q13.1 8 (Int32.toNatClampNeg a1)) q13 q15 hc26) hZ rfl rfl ⟨Nat.le_of_ble_eq_true rfl, Nat.le_of_ble_eq_true rfl⟩ hl.1 rfl (Nat.le_of_ble_eq_true rfl) d_Md_both_69 (fun H locs hZ => ?_)
            refine lv_istore (lv' := [(4, .int q15), (0, .ref (G.1 0)), (1, .int a1), (2, .int a2), (3, .int a3)]) hx0 hb d_Md_both_72 hl (by decide) rfl (fun ls hl => ?_)
            refine lv_aload_n hx0 hb d_Md_both_74 rfl (lv_at hl 1 rfl) ?_
            refine lv_aload_n hx0 hb d_Md_both_75 rfl (lv_at hl 1 rfl) ?_
            refine fg_Md_groups hx0 hb hts hown hZ d_Md_both_76 ?_
            refine lv_iload_n hx0 hb d_Md_both_79 rfl (lv_at hl 3 rfl) ?_
            obtain ⟨hi16, h⟩ := chk_some h
            refine z_ialoadT (k := 8) hx0 hb hZ hi16 d_Md_both_80 ?_
            obtain ⟨q17, hc25, h⟩ := bnd_some h
            refine k_Md_Md_groupBits [.int (q13.1 8 (Int32.toNatClampNeg a2))] hx0 hb hml hts hown (c_Md_groupBits l G (q13.1 8 (Int32.toNatClampNeg a2)) q13 q17 hc25) hZ rfl rfl ⟨Nat.le_of_ble_eq_true rfl, Nat.le_of_ble_eq_true rfl⟩ hl.1 rfl (Nat.le_of_ble_eq_true rfl) d_Md_both_81 (fun H locs hZ => ?_)
            refine lv_istore (lv' := [(5, .int q17), (4, .int q15), (0, .ref (G.1 0)), (1, .int a1), (2, .int a2), (3, .int a3)]) hx0 hb d_Md_both_84 hl (by decide) rfl (fun ls hl => ?_)
            refine lv_aload_n hx0 hb d_Md_both_86 rfl (lv_at hl 2 rfl) ?_
            refine lv_iload hx0 hb d_Md_both_87 (lv_at hl 1 rfl) ?_
            refine lv_iload hx0 hb d_Md_both_89 (lv_at hl 0 rfl) ?_
            obtain ⟨q18, hc24, h⟩ := bnd_some h
            refine k_Md_Md_listParts [.int q15, .int q17] hx0 hb hml hts hown (c_Md_listParts l G q15 q17 q13 q18 hc24) hZ rfl rfl ⟨Nat.le_of_ble_eq_true rfl, Nat.le_of_ble_eq_true rfl⟩ hl.1 rfl (Nat.le_of_ble_eq_true rfl) d_Md_both_91 (fun H locs hZ => ?_)
            refine lv_lconst (v := (0 : Int64)) hx0 hb d_Md_both_94 (by decide) ?_
            refine lv_lstore (lv' := [(6, .long (0 : Int64)), (5, .int q17), (4, .int q15), (0, .ref (G.1 0)), (1, .int a1), (2, .int a2), (3, .int a3)]) hx0 hb d_Md_both_95 hl (by decide) rfl (fun ls hl => ?_)
            refine lv_iconst (v := (0 : Int32)) hx0 hb d_Md_both_97 (by decide) ?_
            refine lv_istore (lv' := [(8, .int (0 : Int32)), (6, .long (0 : Int64)), (5, .int q17), (4, .int q15), (0, .ref (G.1 0)), (1, .int a1), (2, .int a2), (3, .int a3)]) hx0 hb d_Md_both_98 hl (by decide) rfl (fun ls hl => ?_)
            obtain ⟨q19, hq32, h⟩ := bnd_some h
            refine W_itr (At := fun (s0 : Int64 × Int32 × Mem) => ∀ (H : Heap) (locs : List Loc) (ls : Array Slot), ZZT G s s0.2.2 H locs → lv_has ls 10 [(8, .int s0.2.1), (6, .long s0.1), (5, .int q17), (4, .int q15), (0, .ref (G.1 0)), (3, .int a3)] → W p l e rm_Md_both s m args below meth c H locs 0 0 Q (F0 m 100 ls [])) (Ex := fun (q0 : Int64 × Int32 × Mem) => ∀ (H : Heap) (locs : List Loc) (ls : Array Slot), ZZT G s q0.2.2 H locs → lv_has ls 10 [(6, .long q0.1), (0, .ref (G.1 0)), (3, .int a3)] → W p l e rm_Md_both s m args below meth c H locs 0 0 Q (F0 m 180 ls [])) (fun s0 x h hx => ?_) _ _ q19 hq32 (fun H locs ls hZ hl => ?_) _ _ _ hZ (lv_sub hl [0, 1, 2, 3, 4, 7] rfl)
            · obtain ⟨x6_100, x8_100, M_100⟩ := s0
              replace h : p_Md_both_L100 q15 q17 x6_100 x8_100 M_100 = some x := h
              unfold p_Md_both_L100 at h
              intro H locs ls hZ hl
              replace hZ : ZZT G s M_100 H locs := hZ
              replace hl : lv_has ls 10 [(8, .int x8_100), (6, .long x6_100), (5, .int q17), (4, .int q15), (0, .ref (G.1 0)), (3, .int a3)] := hl
              refine lv_iload hx0 hb d_Md_both_100 (lv_at hl 0 rfl) ?_
              refine lv_aload_n hx0 hb d_Md_both_102 rfl (lv_at hl 4 rfl) ?_
              obtain ⟨q100_1, hc100_11, h⟩ := bnd_some h
              refine k_Md_Md_orders [] hx0 hb hml hts hown (c_Md_orders l G  M_100 q100_1 hc100_11) hZ rfl rfl ⟨Nat.le_of_ble_eq_true rfl, Nat.le_of_ble_eq_true rfl⟩ hl.1 rfl (Nat.le_of_ble_eq_true rfl) d_Md_both_103 (fun H locs hZ => ?_)
              refine lv_icmp_ge (tgt := 180) hx0 hb d_Md_both_106 (by decide) (fun c100_2 => ?_) (fun c100_2 => ?_)
              · replace h := (if_pos c100_2).symm.trans h
                obtain rfl := Option.some.inj h
                exact hx _ _ _ hZ (lv_sub hl [1, 4, 5] rfl)
              · replace h := (if_neg c100_2).symm.trans h
                refine lv_aload_n hx0 hb d_Md_both_109 rfl (lv_at hl 4 rfl) ?_
                refine lv_iload hx0 hb d_Md_both_110 (lv_at hl 0 rfl) ?_
                obtain ⟨q100_3, hc100_10, h⟩ := bnd_some h
                refine k_Md_Md_layOrder [.int x8_100] hx0 hb hml hts hown (c_Md_layOrder l G x8_100 M_100 q100_3 hc100_10) hZ rfl rfl ⟨Nat.le_of_ble_eq_true rfl, Nat.le_of_ble_eq_true rfl⟩ hl.1 rfl (Nat.le_of_ble_eq_true rfl) d_Md_both_112 (fun H locs hZ => ?_)
                refine lv_aload_n hx0 hb d_Md_both_115 rfl (lv_at hl 4 rfl) ?_
                refine lv_iload hx0 hb d_Md_both_116 (lv_at hl 3 rfl) ?_
                refine lv_iload hx0 hb d_Md_both_118 (lv_at hl 2 rfl) ?_
                refine lv_ior hx0 hb d_Md_both_120 ?_
                obtain ⟨q100_4, hc100_9, h⟩ := bnd_some h
                refine k_Md_Md_before [.int (q15 ||| q17)] hx0 hb hml hts hown (c_Md_before l G (q15 ||| q17) q100_3 q100_4 hc100_9) hZ rfl rfl ⟨Nat.le_of_ble_eq_true rfl, Nat.le_of_ble_eq_true rfl⟩ hl.1 rfl (Nat.le_of_ble_eq_true rfl) d_Md_both_121 (fun H locs hZ => ?_)
                refine lv_istore (lv' := [(9, .int q100_4), (8, .int x8_100), (6, .long x6_100), (5, .int q17), (4, .int q15), (0, .ref (G.1 0)), (3, .int a3)]) hx0 hb d_Md_both_124 hl (by decide) rfl (fun ls hl => ?_)
                refine lv_lload hx0 hb d_Md_both_126 (lv_at hl 2 rfl) ?_
                refine lv_aload_n hx0 hb d_Md_both_128 rfl (lv_at hl 5 rfl) ?_
                refine fg_Md_sums hx0 hb hts hown hZ d_Md_both_129 ?_
                refine lv_iload hx0 hb d_Md_both_132 (lv_at hl 0 rfl) ?_
                refine lv_iload hx0 hb d_Md_both_134 (lv_at hl 4 rfl) ?_
                refine lv_ior hx0 hb d_Md_both_136 ?_
                refine lv_iload hx0 hb d_Md_both_137 (lv_at hl 3 rfl) ?_
                refine lv_ior hx0 hb d_Md_both_139 ?_
                obtain ⟨hi100_5, h⟩ := chk_some h
                refine z_laloadT (k := 12) hx0 hb hZ hi100_5 d_Md_both_140 ?_
                refine lv_aload_n hx0 hb d_Md_both_141 rfl (lv_at hl 5 rfl) ?_
                refine fg_Md_sums hx0 hb hts hown hZ d_Md_both_142 ?_
                refine lv_iload hx0 hb d_Md_both_145 (lv_at hl 0 rfl) ?_
                refine lv_iload hx0 hb d_Md_both_147 (lv_at hl 4 rfl) ?_
                refine lv_ior hx0 hb d_Md_both_149 ?_
                obtain ⟨hi100_6, h⟩ := chk_some h
                refine z_laloadT (k := 12) hx0 hb hZ hi100_6 d_Md_both_150 ?_
                refine lv_lsub hx0 hb d_Md_both_151 ?_
                refine lv_aload_n hx0 hb d_Md_both_152 rfl (lv_at hl 5 rfl) ?_
                refine fg_Md_sums hx0 hb hts hown hZ d_Md_both_153 ?_
                refine lv_iload hx0 hb d_Md_both_156 (lv_at hl 0 rfl) ?_
                refine lv_iload hx0 hb d_Md_both_158 (lv_at hl 3 rfl) ?_
                refine lv_ior hx0 hb d_Md_both_160 ?_
                obtain ⟨hi100_7, h⟩ := chk_some h
                refine z_laloadT (k := 12) hx0 hb hZ hi100_7 d_Md_both_161 ?_
                refine lv_lsub hx0 hb d_Md_both_162 ?_
                refine lv_aload_n hx0 hb d_Md_both_163 rfl (lv_at hl 5 rfl) ?_
                refine fg_Md_sums hx0 hb hts hown hZ d_Md_both_164 ?_
                refine lv_iload hx0 hb d_Md_both_167 (lv_at hl 0 rfl) ?_
                obtain ⟨hi100_8, h⟩ := chk_some h
                refine z_laloadT (k := 12) hx0 hb hZ hi100_8 d_Md_both_169 ?_
                refine lv_ladd hx0 hb d_Md_both_170 ?_
                refine lv_ladd hx0 hb d_Md_both_171 ?_
                refine lv_lstore (lv' := [(6, .long (x6_100 + ((((q100_3.2 12 (Int32.toNatClampNeg ((q100_4 ||| q15) ||| q17))) - (q100_3.2 12 (Int32.toNatClampNeg (q100_4 ||| q15)))) - (q100_3.2 12 (Int32.toNatClampNeg (q100_4 ||| q17)))) + (q100_3.2 12 (Int32.toNatClampNeg q100_4))))), (9, .int q100_4), (8, .int x8_100), (5, .int q17), (4, .int q15), (0, .ref (G.1 0)), (3, .int a3)]) hx0 hb d_Md_both_172 hl (by decide) rfl (fun ls hl => ?_)
                refine lv_iinc (v := (x8_100 + (1 : Int32))) (lv' := [(8, .int (x8_100 + (1 : Int32))), (6, .long (x6_100 + ((((q100_3.2 12 (Int32.toNatClampNeg ((q100_4 ||| q15) ||| q17))) - (q100_3.2 12 (Int32.toNatClampNeg (q100_4 ||| q15)))) - (q100_3.2 12 (Int32.toNatClampNeg (q100_4 ||| q17)))) + (q100_3.2 12 (Int32.toNatClampNeg q100_4))))), (9, .int q100_4), (5, .int q17), (4, .int q15), (0, .ref (G.1 0)), (3, .int a3)]) hx0 hb d_Md_both_174 hl (k := 2) rfl rfl (by decide) rfl (fun ls hl => ?_)
                refine lv_goto (tgt := 100) hx0 hb d_Md_both_177 (by decide) ?_
                obtain rfl := Option.some.inj h
                exact hx _ _ _ hZ (lv_sub hl [0, 1, 3, 4, 5, 6] rfl)
            · replace hZ : ZZT G s q19.2.2 H locs := hZ
              replace hl : lv_has ls 10 [(6, .long q19.1), (0, .ref (G.1 0)), (3, .int a3)] := hl
              refine lv_lload hx0 hb d_Md_both_180 (lv_at hl 0 rfl) ?_
              refine lv_aload_n hx0 hb d_Md_both_182 rfl (lv_at hl 1 rfl) ?_
              refine fg_Md_rows hx0 hb hts hown hZ d_Md_both_183 ?_
              refine lv_i2l (v := Int32.toInt64 (q19.2.2.1 0 13)) hx0 hb d_Md_both_186 rfl ?_
              refine lv_aload_n hx0 hb d_Md_both_187 rfl (lv_at hl 1 rfl) ?_
              obtain ⟨q20, hc23, h⟩ := bnd_some h
              refine k_Md_Md_orders [] hx0 hb hml hts hown (c_Md_orders l G  q19.2.2 q20 hc23) hZ rfl rfl ⟨Nat.le_of_ble_eq_true rfl, Nat.le_of_ble_eq_true rfl⟩ hl.1 rfl (Nat.le_of_ble_eq_true rfl) d_Md_both_188 (fun H locs hZ => ?_)
              refine lv_i2l (v := Int32.toInt64 q20) hx0 hb d_Md_both_191 rfl ?_
              refine lv_lmul hx0 hb d_Md_both_192 ?_
              refine lv_iload_n hx0 hb d_Md_both_193 rfl (lv_at hl 2 rfl) ?_
              obtain ⟨q21, hc22, h⟩ := bnd_some h
              refine k_Md_Md_part [.long q19.1, .long ((Int32.toInt64 (q19.2.2.1 0 13)) * (Int32.toInt64 q20)), .int a3] hx0 hb hml hts hown (c_Md_part l G q19.1 ((Int32.toInt64 (q19.2.2.1 0 13)) * (Int32.toInt64 q20)) a3 q19.2.2 q21 hc22) hZ rfl rfl ⟨Nat.le_of_ble_eq_true rfl, Nat.le_of_ble_eq_true rfl⟩ hl.1 rfl (Nat.le_of_ble_eq_true rfl) d_Md_both_194 (fun H locs hZ => ?_)
              obtain rfl := Option.some.inj h
              exact z_lretT hx0 hb hr hZ hlocks hQ d_Md_both_197
          · replace h := (if_neg c12).symm.trans h
            refine lv_lconst (v := (0 : Int64)) hx0 hb d_Md_both_56 (by decide) ?_
            obtain rfl := Option.some.inj h
            exact z_lretT hx0 hb hr hZ hlocks hQ d_Md_both_57
        · replace h := (if_pos c10).symm.trans h
          refine lv_ldc2 (v := (-1000000000000 : Int64)) hx0 hb hown (hts _ wk_Md_91) d_Md_both_45 ?_
          obtain rfl := Option.some.inj h
          exact z_lretT hx0 hb hr hZ hlocks hQ d_Md_both_48
abbrev rm_Md_drawn : Room := ({ frames := 2, cells := 0, slots := 0, locals := 47 } : Room)
set_option maxHeartbeats 4000000 in
set_option maxRecDepth 100000 in
theorem c_Md_drawn (l : Launch) (G : zG) (a1 : Int32) (a2 : Int32) (a3 : Int32) (a4 : Int32) (M : Mem) (r : Int64 × Mem) (h : p_Md_drawn a1 a2 a3 a4 M = some r) : MetZT l G y_Md_drawn (Cond.code y_Md_drawn b_Md_drawn 13 (some .long) :: zws) rm_Md_drawn [.ref (G.1 0), .int a1, .int a2, .int a3, .int a4] M (some (.long r.1)) r.2 := by
  unfold p_Md_drawn at h
  refine z_ofWT (lv := [(0, .ref (G.1 0)), (1, .int a1), (2, .int a2), (3, .int a3), (4, .int a4)]) (by decide) (Nat.le_of_ble_eq_true rfl) rfl (fun p e R s m args below meth c Q ls F hl hZ => ?_)
  obtain ⟨hx0, hb, hml, hr, hts, hown, hlocks, rfl, hQ⟩ := F
  refine lv_aload_n hx0 hb d_Md_drawn_0 rfl (lv_at hl 0 rfl) ?_
  refine lv_iconst (v := (0 : Int32)) hx0 hb d_Md_drawn_1 (by decide) ?_
  refine fp_Md_code hx0 hb hts hown hZ d_Md_drawn_2 (fun H locs hZ => ?_)
  obtain ⟨m1, em1, h⟩ := nm_some h
  rw [em1] at hZ
  refine lv_aload_n hx0 hb d_Md_drawn_5 rfl (lv_at hl 0 rfl) ?_
  refine lv_iload_n hx0 hb d_Md_drawn_6 rfl (lv_at hl 1 rfl) ?_
  obtain ⟨q2, hc23, h⟩ := bnd_some h
  refine k_Md_Md_isColumn [.int a1] hx0 hb hml hts hown (c_Md_isColumn l G a1 m1 q2 hc23) hZ rfl rfl ⟨Nat.le_of_ble_eq_true rfl, Nat.le_of_ble_eq_true rfl⟩ hl.1 rfl (Nat.le_of_ble_eq_true rfl) d_Md_drawn_7 (fun H locs hZ => ?_)
  refine lv_if_eq (tgt := 33) hx0 hb d_Md_drawn_10 (by decide) (fun c3 => ?_) (fun c3 => ?_)
  · replace h := (if_pos c3).symm.trans h
    refine lv_ldc2 (v := (-1000000000000 : Int64)) hx0 hb hown (hts _ wk_Md_91) d_Md_drawn_33 ?_
    obtain rfl := Option.some.inj h
    exact z_lretT hx0 hb hr hZ hlocks hQ d_Md_drawn_36
  · replace h := (if_neg c3).symm.trans h
    refine lv_iload_n hx0 hb d_Md_drawn_13 rfl (lv_at hl 3 rfl) ?_
    refine lv_iconst (v := (1 : Int32)) hx0 hb d_Md_drawn_14 (by decide) ?_
    refine lv_bipush (v := (20 : Int32)) hx0 hb d_Md_drawn_15 (by decide) ?_
    obtain ⟨q4, hc22, h⟩ := bnd_some h
    refine k_Md_Md_in [.int a3, .int (1 : Int32), .int (20 : Int32)] hx0 hb hml hts hown (c_Md_in l G a3 (1 : Int32) (20 : Int32) m1 q4 hc22) hZ rfl rfl ⟨Nat.le_of_ble_eq_true rfl, Nat.le_of_ble_eq_true rfl⟩ hl.1 rfl (Nat.le_of_ble_eq_true rfl) d_Md_drawn_17 (fun H locs hZ => ?_)
    refine lv_if_eq (tgt := 33) hx0 hb d_Md_drawn_20 (by decide) (fun c5 => ?_) (fun c5 => ?_)
    · replace h := (if_pos c5).symm.trans h
      refine lv_ldc2 (v := (-1000000000000 : Int64)) hx0 hb hown (hts _ wk_Md_91) d_Md_drawn_33 ?_
      obtain rfl := Option.some.inj h
      exact z_lretT hx0 hb hr hZ hlocks hQ d_Md_drawn_36
    · replace h := (if_neg c5).symm.trans h
      refine lv_iload hx0 hb d_Md_drawn_23 (lv_at hl 4 rfl) ?_
      refine lv_iconst (v := (0 : Int32)) hx0 hb d_Md_drawn_25 (by decide) ?_
      refine lv_iconst (v := (1 : Int32)) hx0 hb d_Md_drawn_26 (by decide) ?_
      obtain ⟨q6, hc21, h⟩ := bnd_some h
      refine k_Md_Md_in [.int a4, .int (0 : Int32), .int (1 : Int32)] hx0 hb hml hts hown (c_Md_in l G a4 (0 : Int32) (1 : Int32) m1 q6 hc21) hZ rfl rfl ⟨Nat.le_of_ble_eq_true rfl, Nat.le_of_ble_eq_true rfl⟩ hl.1 rfl (Nat.le_of_ble_eq_true rfl) d_Md_drawn_27 (fun H locs hZ => ?_)
      refine lv_if_ne (tgt := 37) hx0 hb d_Md_drawn_30 (by decide) (fun c7 => ?_) (fun c7 => ?_)
      · replace h := (if_neg c7).symm.trans h
        refine lv_aload_n hx0 hb d_Md_drawn_37 rfl (lv_at hl 0 rfl) ?_
        obtain ⟨q8, hc20, h⟩ := bnd_some h
        refine k_Md_Md_throwsNow [] hx0 hb hml hts hown (c_Md_throwsNow l G  m1 q8 hc20) hZ rfl rfl ⟨Nat.le_of_ble_eq_true rfl, Nat.le_of_ble_eq_true rfl⟩ hl.1 rfl (Nat.le_of_ble_eq_true rfl) d_Md_drawn_38 (fun H locs hZ => ?_)
        refine lv_if_eq (tgt := 46) hx0 hb d_Md_drawn_41 (by decide) (fun c9 => ?_) (fun c9 => ?_)
        · replace h := (if_pos c9).symm.trans h
          refine lv_aload_n hx0 hb d_Md_drawn_46 rfl (lv_at hl 0 rfl) ?_
          obtain ⟨q10, hc19, h⟩ := bnd_some h
          refine k_Md_Md_sumAll [] hx0 hb hml hts hown (c_Md_sumAll l G  q8.2 q10 hc19) hZ rfl rfl ⟨Nat.le_of_ble_eq_true rfl, Nat.le_of_ble_eq_true rfl⟩ hl.1 rfl (Nat.le_of_ble_eq_true rfl) d_Md_drawn_47 (fun H locs hZ => ?_)
          refine lv_aload_n hx0 hb d_Md_drawn_50 rfl (lv_at hl 0 rfl) ?_
          refine lv_aload_n hx0 hb d_Md_drawn_51 rfl (lv_at hl 0 rfl) ?_
          refine fg_Md_groups hx0 hb hts hown hZ d_Md_drawn_52 ?_
          refine lv_iload_n hx0 hb d_Md_drawn_55 rfl (lv_at hl 1 rfl) ?_
          obtain ⟨hi11, h⟩ := chk_some h
          refine z_ialoadT (k := 8) hx0 hb hZ hi11 d_Md_drawn_56 ?_
          obtain ⟨q12, hc18, h⟩ := bnd_some h
          refine k_Md_Md_groupBits [.int (q10.1 8 (Int32.toNatClampNeg a1))] hx0 hb hml hts hown (c_Md_groupBits l G (q10.1 8 (Int32.toNatClampNeg a1)) q10 q12 hc18) hZ rfl rfl ⟨Nat.le_of_ble_eq_true rfl, Nat.le_of_ble_eq_true rfl⟩ hl.1 rfl (Nat.le_of_ble_eq_true rfl) d_Md_drawn_57 (fun H locs hZ => ?_)
          refine lv_istore (lv' := [(5, .int q12), (0, .ref (G.1 0)), (1, .int a1), (2, .int a2), (3, .int a3), (4, .int a4)]) hx0 hb d_Md_drawn_60 hl (by decide) rfl (fun ls hl => ?_)
          refine lv_aload_n hx0 hb d_Md_drawn_62 rfl (lv_at hl 1 rfl) ?_
          refine lv_iconst (v := (0 : Int32)) hx0 hb d_Md_drawn_63 (by decide) ?_
          refine lv_iconst (v := (0 : Int32)) hx0 hb d_Md_drawn_64 (by decide) ?_
          obtain ⟨q13, hc17, h⟩ := bnd_some h
          refine k_Md_Md_listParts [.int (0 : Int32), .int (0 : Int32)] hx0 hb hml hts hown (c_Md_listParts l G (0 : Int32) (0 : Int32) q10 q13 hc17) hZ rfl rfl ⟨Nat.le_of_ble_eq_true rfl, Nat.le_of_ble_eq_true rfl⟩ hl.1 rfl (Nat.le_of_ble_eq_true rfl) d_Md_drawn_65 (fun H locs hZ => ?_)
          refine lv_iload_n hx0 hb d_Md_drawn_68 rfl (lv_at hl 3 rfl) ?_
          refine lv_istore (lv' := [(6, .int a2), (5, .int q12), (0, .ref (G.1 0)), (1, .int a1), (2, .int a2), (3, .int a3), (4, .int a4)]) hx0 hb d_Md_drawn_69 hl (by decide) rfl (fun ls hl => ?_)
          refine lv_lconst (v := (0 : Int64)) hx0 hb d_Md_drawn_71 (by decide) ?_
          refine lv_lstore (lv' := [(7, .long (0 : Int64)), (6, .int a2), (5, .int q12), (0, .ref (G.1 0)), (1, .int a1), (2, .int a2), (3, .int a3), (4, .int a4)]) hx0 hb d_Md_drawn_72 hl (by decide) rfl (fun ls hl => ?_)
          refine lv_iconst (v := (0 : Int32)) hx0 hb d_Md_drawn_74 (by decide) ?_
          refine lv_istore (lv' := [(9, .int (0 : Int32)), (7, .long (0 : Int64)), (6, .int a2), (5, .int q12), (0, .ref (G.1 0)), (1, .int a1), (2, .int a2), (3, .int a3), (4, .int a4)]) hx0 hb d_Md_drawn_75 hl (by decide) rfl (fun ls hl => ?_)
          obtain ⟨q14, hq24, h⟩ := bnd_some h
          refine W_itr (At := fun (s0 : Int32 × Int64 × Int32 × Mem) => ∀ (H : Heap) (locs : List Loc) (ls : Array Slot), ZZT G s s0.2.2.2 H locs → lv_has ls 13 [(9, .int s0.2.2.1), (7, .long s0.2.1), (6, .int s0.1), (5, .int q12), (0, .ref (G.1 0)), (3, .int a3), (4, .int a4)] → W p l e rm_Md_drawn s m args below meth c H locs 0 0 Q (F0 m 77 ls [])) (Ex := fun (q0 : Int32 × Int64 × Int32 × Mem) => ∀ (H : Heap) (locs : List Loc) (ls : Array Slot), ZZT G s q0.2.2.2 H locs → lv_has ls 13 [(7, .long q0.2.1), (0, .ref (G.1 0)), (3, .int a3), (4, .int a4)] → W p l e rm_Md_drawn s m args below meth c H locs 0 0 Q (F0 m 221 ls [])) (fun s0 x h hx => ?_) _ _ q14 hq24 (fun H locs ls hZ hl => ?_) _ _ _ hZ (lv_sub hl [0, 1, 2, 3, 4, 7, 8] rfl)
          · obtain ⟨x6_77, x7_77, x9_77, M_77⟩ := s0
            replace h : p_Md_drawn_L77 a3 q12 x6_77 x7_77 x9_77 M_77 = some x := h
            unfold p_Md_drawn_L77 at h
            intro H locs ls hZ hl
            replace hZ : ZZT G s M_77 H locs := hZ
            replace hl : lv_has ls 13 [(9, .int x9_77), (7, .long x7_77), (6, .int x6_77), (5, .int q12), (0, .ref (G.1 0)), (3, .int a3), (4, .int a4)] := hl
            refine lv_iload hx0 hb d_Md_drawn_77 (lv_at hl 0 rfl) ?_
            refine lv_iload_n hx0 hb d_Md_drawn_79 rfl (lv_at hl 5 rfl) ?_
            refine lv_icmp_ge (tgt := 221) hx0 hb d_Md_drawn_80 (by decide) (fun c77_1 => ?_) (fun c77_1 => ?_)
            · replace h := (if_pos c77_1).symm.trans h
              obtain rfl := Option.some.inj h
              exact hx _ _ _ hZ (lv_sub hl [1, 4, 5, 6] rfl)
            · replace h := (if_neg c77_1).symm.trans h
              refine lv_iconst (v := (0 : Int32)) hx0 hb d_Md_drawn_83 (by decide) ?_
              refine lv_istore (lv' := [(10, .int (0 : Int32)), (9, .int x9_77), (7, .long x7_77), (6, .int x6_77), (5, .int q12), (0, .ref (G.1 0)), (3, .int a3), (4, .int a4)]) hx0 hb d_Md_drawn_84 hl (by decide) rfl (fun ls hl => ?_)
              obtain ⟨q77_2, hq25, h⟩ := bnd_some h
              refine W_itr (At := fun (s0 : Int32 × Mem) => ∀ (H : Heap) (locs : List Loc) (ls : Array Slot), ZZT G s s0.2 H locs → lv_has ls 13 [(10, .int s0.1), (9, .int x9_77), (7, .long x7_77), (6, .int x6_77), (5, .int q12), (0, .ref (G.1 0)), (3, .int a3), (4, .int a4)] → W p l e rm_Md_drawn s m args below meth c H locs 0 0 Q (F0 m 86 ls [])) (Ex := fun (q0 : Int32 × Mem) => ∀ (H : Heap) (locs : List Loc) (ls : Array Slot), ZZT G s q0.2 H locs → lv_has ls 13 [(9, .int x9_77), (7, .long x7_77), (6, .int x6_77), (5, .int q12), (0, .ref (G.1 0)), (3, .int a3), (4, .int a4)] → W p l e rm_Md_drawn s m args below meth c H locs 0 0 Q (F0 m 110 ls [])) (fun s0 x h hx => ?_) _ _ q77_2 hq25 (fun H locs ls hZ hl => ?_) _ _ _ hZ (lv_sub hl [0, 1, 2, 3, 4, 5, 6, 7] rfl)
              · obtain ⟨x10_86, M_86⟩ := s0
                replace h : p_Md_drawn_L86 x10_86 M_86 = some x := h
                unfold p_Md_drawn_L86 at h
                intro H locs ls hZ hl
                replace hZ : ZZT G s M_86 H locs := hZ
                replace hl : lv_has ls 13 [(10, .int x10_86), (9, .int x9_77), (7, .long x7_77), (6, .int x6_77), (5, .int q12), (0, .ref (G.1 0)), (3, .int a3), (4, .int a4)] := hl
                refine lv_iload hx0 hb d_Md_drawn_86 (lv_at hl 0 rfl) ?_
                refine lv_aload_n hx0 hb d_Md_drawn_88 rfl (lv_at hl 5 rfl) ?_
                refine fg_Md_many hx0 hb hts hown hZ d_Md_drawn_89 ?_
                refine lv_icmp_ge (tgt := 110) hx0 hb d_Md_drawn_92 (by decide) (fun c86_1 => ?_) (fun c86_1 => ?_)
                · replace h := (if_pos c86_1).symm.trans h
                  obtain rfl := Option.some.inj h
                  exact hx _ _ _ hZ (lv_sub hl [1, 2, 3, 4, 5, 6, 7] rfl)
                · replace h := (if_neg c86_1).symm.trans h
                  refine lv_aload_n hx0 hb d_Md_drawn_95 rfl (lv_at hl 5 rfl) ?_
                  refine fg_Md_order hx0 hb hts hown hZ d_Md_drawn_96 ?_
                  refine lv_iload hx0 hb d_Md_drawn_99 (lv_at hl 0 rfl) ?_
                  refine lv_iload hx0 hb d_Md_drawn_101 (lv_at hl 0 rfl) ?_
                  obtain ⟨hi86_2, h⟩ := chk_some h
                  refine z_iastoreT (k := 14) hx0 hb hZ hi86_2 d_Md_drawn_103 (fun H locs hZ => ?_)
                  obtain ⟨m86_3, em86_3, h⟩ := nm_some h
                  rw [em86_3] at hZ
                  refine lv_iinc (v := (x10_86 + (1 : Int32))) (lv' := [(10, .int (x10_86 + (1 : Int32))), (9, .int x9_77), (7, .long x7_77), (6, .int x6_77), (5, .int q12), (0, .ref (G.1 0)), (3, .int a3), (4, .int a4)]) hx0 hb d_Md_drawn_104 hl (k := 0) rfl rfl (by decide) rfl (fun ls hl => ?_)
                  refine lv_goto (tgt := 86) hx0 hb d_Md_drawn_107 (by decide) ?_
                  obtain rfl := Option.some.inj h
                  exact hx _ _ _ hZ (lv_sub hl [0, 1, 2, 3, 4, 5, 6, 7] rfl)
              · replace hZ : ZZT G s q77_2.2 H locs := hZ
                replace hl : lv_has ls 13 [(9, .int x9_77), (7, .long x7_77), (6, .int x6_77), (5, .int q12), (0, .ref (G.1 0)), (3, .int a3), (4, .int a4)] := hl
                refine lv_aload_n hx0 hb d_Md_drawn_110 rfl (lv_at hl 4 rfl) ?_
                refine fg_Md_many hx0 hb hts hown hZ d_Md_drawn_111 ?_
                refine lv_iconst (v := (1 : Int32)) hx0 hb d_Md_drawn_114 (by decide) ?_
                refine lv_isub hx0 hb d_Md_drawn_115 ?_
                refine lv_istore (lv' := [(10, .int ((q77_2.2.1 0 17) - (1 : Int32))), (9, .int x9_77), (7, .long x7_77), (6, .int x6_77), (5, .int q12), (0, .ref (G.1 0)), (3, .int a3), (4, .int a4)]) hx0 hb d_Md_drawn_116 hl (by decide) rfl (fun ls hl => ?_)
                obtain ⟨q77_3, hq26, h⟩ := bnd_some h
                refine W_itr (At := fun (s0 : Int32 × Int32 × Mem) => ∀ (H : Heap) (locs : List Loc) (ls : Array Slot), ZZT G s s0.2.2 H locs → lv_has ls 13 [(10, .int s0.2.1), (9, .int x9_77), (7, .long x7_77), (6, .int s0.1), (5, .int q12), (0, .ref (G.1 0)), (3, .int a3), (4, .int a4)] → W p l e rm_Md_drawn s m args below meth c H locs 0 0 Q (F0 m 118 ls [])) (Ex := fun (q0 : Int32 × Int32 × Mem) => ∀ (H : Heap) (locs : List Loc) (ls : Array Slot), ZZT G s q0.2.2 H locs → lv_has ls 13 [(9, .int x9_77), (7, .long x7_77), (6, .int q0.1), (5, .int q12), (0, .ref (G.1 0)), (3, .int a3), (4, .int a4)] → W p l e rm_Md_drawn s m args below meth c H locs 0 0 Q (F0 m 184 ls [])) (fun s0 x h hx => ?_) _ _ q77_3 hq26 (fun H locs ls hZ hl => ?_) _ _ _ hZ (lv_sub hl [0, 1, 2, 3, 4, 5, 6, 7] rfl)
                · obtain ⟨x6_118, x10_118, M_118⟩ := s0
                  replace h : p_Md_drawn_L118 x6_118 x10_118 M_118 = some x := h
                  unfold p_Md_drawn_L118 at h
                  intro H locs ls hZ hl
                  replace hZ : ZZT G s M_118 H locs := hZ
                  replace hl : lv_has ls 13 [(10, .int x10_118), (9, .int x9_77), (7, .long x7_77), (6, .int x6_118), (5, .int q12), (0, .ref (G.1 0)), (3, .int a3), (4, .int a4)] := hl
                  refine lv_iload hx0 hb d_Md_drawn_118 (lv_at hl 0 rfl) ?_
                  refine lv_if_le (tgt := 184) hx0 hb d_Md_drawn_120 (by decide) (fun c118_1 => ?_) (fun c118_1 => ?_)
                  · replace h := (if_pos c118_1).symm.trans h
                    obtain rfl := Option.some.inj h
                    exact hx _ _ _ hZ (lv_sub hl [1, 2, 3, 4, 5, 6, 7] rfl)
                  · replace h := (if_neg c118_1).symm.trans h
                    refine lv_iload hx0 hb d_Md_drawn_123 (lv_at hl 3 rfl) ?_
                    refine lv_ldc (v := (1103515245 : Int32)) hx0 hb hown (hts _ wk_Md_139) d_Md_drawn_125 ?_
                    refine lv_imul hx0 hb d_Md_drawn_127 ?_
                    refine lv_sipush (v := (12345 : Int32)) hx0 hb d_Md_drawn_128 (by decide) ?_
                    refine lv_iadd hx0 hb d_Md_drawn_131 ?_
                    refine lv_istore (lv' := [(6, .int ((x6_118 * (1103515245 : Int32)) + (12345 : Int32))), (10, .int x10_118), (9, .int x9_77), (7, .long x7_77), (5, .int q12), (0, .ref (G.1 0)), (3, .int a3), (4, .int a4)]) hx0 hb d_Md_drawn_132 hl (by decide) rfl (fun ls hl => ?_)
                    refine lv_iload hx0 hb d_Md_drawn_134 (lv_at hl 0 rfl) ?_
                    refine lv_bipush (v := (16 : Int32)) hx0 hb d_Md_drawn_136 (by decide) ?_
                    refine lv_iushr (v := zush ((x6_118 * (1103515245 : Int32)) + (12345 : Int32)) (16 : Int32)) hx0 hb d_Md_drawn_138 rfl ?_
                    refine lv_iload hx0 hb d_Md_drawn_139 (lv_at hl 1 rfl) ?_
                    refine lv_iconst (v := (1 : Int32)) hx0 hb d_Md_drawn_141 (by decide) ?_
                    refine lv_iadd hx0 hb d_Md_drawn_142 ?_
                    obtain ⟨hn118_2, h⟩ := chk_some h
                    refine lv_irem hx0 hb d_Md_drawn_143 (of_decide_eq_true hn118_2) ?_
                    refine lv_istore (lv' := [(11, .int ((zush ((x6_118 * (1103515245 : Int32)) + (12345 : Int32)) (16 : Int32)) - (zush ((x6_118 * (1103515245 : Int32)) + (12345 : Int32)) (16 : Int32)) / (x10_118 + (1 : Int32)) * (x10_118 + (1 : Int32)))), (6, .int ((x6_118 * (1103515245 : Int32)) + (12345 : Int32))), (10, .int x10_118), (9, .int x9_77), (7, .long x7_77), (5, .int q12), (0, .ref (G.1 0)), (3, .int a3), (4, .int a4)]) hx0 hb d_Md_drawn_144 hl (by decide) rfl (fun ls hl => ?_)
                    refine lv_aload_n hx0 hb d_Md_drawn_146 rfl (lv_at hl 6 rfl) ?_
                    refine fg_Md_order hx0 hb hts hown hZ d_Md_drawn_147 ?_
                    refine lv_iload hx0 hb d_Md_drawn_150 (lv_at hl 2 rfl) ?_
                    obtain ⟨hi118_3, h⟩ := chk_some h
                    refine z_ialoadT (k := 14) hx0 hb hZ hi118_3 d_Md_drawn_152 ?_
                    refine lv_istore (lv' := [(12, .int (M_118.1 14 (Int32.toNatClampNeg x10_118))), (11, .int ((zush ((x6_118 * (1103515245 : Int32)) + (12345 : Int32)) (16 : Int32)) - (zush ((x6_118 * (1103515245 : Int32)) + (12345 : Int32)) (16 : Int32)) / (x10_118 + (1 : Int32)) * (x10_118 + (1 : Int32)))), (6, .int ((x6_118 * (1103515245 : Int32)) + (12345 : Int32))), (10, .int x10_118), (9, .int x9_77), (7, .long x7_77), (5, .int q12), (0, .ref (G.1 0)), (3, .int a3), (4, .int a4)]) hx0 hb d_Md_drawn_153 hl (by decide) rfl (fun ls hl => ?_)
                    refine lv_aload_n hx0 hb d_Md_drawn_155 rfl (lv_at hl 7 rfl) ?_
                    refine fg_Md_order hx0 hb hts hown hZ d_Md_drawn_156 ?_
                    refine lv_iload hx0 hb d_Md_drawn_159 (lv_at hl 3 rfl) ?_
                    refine lv_aload_n hx0 hb d_Md_drawn_161 rfl (lv_at hl 7 rfl) ?_
                    refine fg_Md_order hx0 hb hts hown hZ d_Md_drawn_162 ?_
                    refine lv_iload hx0 hb d_Md_drawn_165 (lv_at hl 1 rfl) ?_
                    obtain ⟨hi118_4, h⟩ := chk_some h
                    refine z_ialoadT (k := 14) hx0 hb hZ hi118_4 d_Md_drawn_167 ?_
                    obtain ⟨hi118_5, h⟩ := chk_some h
                    refine z_iastoreT (k := 14) hx0 hb hZ hi118_5 d_Md_drawn_168 (fun H locs hZ => ?_)
                    obtain ⟨m118_6, em118_6, h⟩ := nm_some h
                    rw [em118_6] at hZ
                    refine lv_aload_n hx0 hb d_Md_drawn_169 rfl (lv_at hl 7 rfl) ?_
                    refine fg_Md_order hx0 hb hts hown hZ d_Md_drawn_170 ?_
                    refine lv_iload hx0 hb d_Md_drawn_173 (lv_at hl 1 rfl) ?_
                    refine lv_iload hx0 hb d_Md_drawn_175 (lv_at hl 0 rfl) ?_
                    obtain ⟨hi118_7, h⟩ := chk_some h
                    refine z_iastoreT (k := 14) hx0 hb hZ hi118_7 d_Md_drawn_177 (fun H locs hZ => ?_)
                    obtain ⟨m118_8, em118_8, h⟩ := nm_some h
                    rw [em118_8] at hZ
                    refine lv_iinc (v := (x10_118 + (-1 : Int32))) (lv' := [(10, .int (x10_118 + (-1 : Int32))), (12, .int (M_118.1 14 (Int32.toNatClampNeg x10_118))), (11, .int ((zush ((x6_118 * (1103515245 : Int32)) + (12345 : Int32)) (16 : Int32)) - (zush ((x6_118 * (1103515245 : Int32)) + (12345 : Int32)) (16 : Int32)) / (x10_118 + (1 : Int32)) * (x10_118 + (1 : Int32)))), (6, .int ((x6_118 * (1103515245 : Int32)) + (12345 : Int32))), (9, .int x9_77), (7, .long x7_77), (5, .int q12), (0, .ref (G.1 0)), (3, .int a3), (4, .int a4)]) hx0 hb d_Md_drawn_178 hl (k := 3) rfl rfl (by decide) rfl (fun ls hl => ?_)
                    refine lv_goto (tgt := 118) hx0 hb d_Md_drawn_181 (by decide) ?_
                    obtain rfl := Option.some.inj h
                    exact hx _ _ _ hZ (lv_sub hl [0, 4, 5, 3, 6, 7, 8, 9] rfl)
                · replace hZ : ZZT G s q77_3.2.2 H locs := hZ
                  replace hl : lv_has ls 13 [(9, .int x9_77), (7, .long x7_77), (6, .int q77_3.1), (5, .int q12), (0, .ref (G.1 0)), (3, .int a3), (4, .int a4)] := hl
                  refine lv_aload_n hx0 hb d_Md_drawn_184 rfl (lv_at hl 4 rfl) ?_
                  refine lv_iload hx0 hb d_Md_drawn_185 (lv_at hl 3 rfl) ?_
                  obtain ⟨q77_4, hc77_7, h⟩ := bnd_some h
                  refine k_Md_Md_before [.int q12] hx0 hb hml hts hown (c_Md_before l G q12 q77_3.2.2 q77_4 hc77_7) hZ rfl rfl ⟨Nat.le_of_ble_eq_true rfl, Nat.le_of_ble_eq_true rfl⟩ hl.1 rfl (Nat.le_of_ble_eq_true rfl) d_Md_drawn_187 (fun H locs hZ => ?_)
                  refine lv_istore (lv' := [(10, .int q77_4), (9, .int x9_77), (7, .long x7_77), (6, .int q77_3.1), (5, .int q12), (0, .ref (G.1 0)), (3, .int a3), (4, .int a4)]) hx0 hb d_Md_drawn_190 hl (by decide) rfl (fun ls hl => ?_)
                  refine lv_lload hx0 hb d_Md_drawn_192 (lv_at hl 2 rfl) ?_
                  refine lv_aload_n hx0 hb d_Md_drawn_194 rfl (lv_at hl 5 rfl) ?_
                  refine fg_Md_sums hx0 hb hts hown hZ d_Md_drawn_195 ?_
                  refine lv_iload hx0 hb d_Md_drawn_198 (lv_at hl 0 rfl) ?_
                  refine lv_iload hx0 hb d_Md_drawn_200 (lv_at hl 4 rfl) ?_
                  refine lv_ior hx0 hb d_Md_drawn_202 ?_
                  obtain ⟨hi77_5, h⟩ := chk_some h
                  refine z_laloadT (k := 12) hx0 hb hZ hi77_5 d_Md_drawn_203 ?_
                  refine lv_aload_n hx0 hb d_Md_drawn_204 rfl (lv_at hl 5 rfl) ?_
                  refine fg_Md_sums hx0 hb hts hown hZ d_Md_drawn_205 ?_
                  refine lv_iload hx0 hb d_Md_drawn_208 (lv_at hl 0 rfl) ?_
                  obtain ⟨hi77_6, h⟩ := chk_some h
                  refine z_laloadT (k := 12) hx0 hb hZ hi77_6 d_Md_drawn_210 ?_
                  refine lv_lsub hx0 hb d_Md_drawn_211 ?_
                  refine lv_ladd hx0 hb d_Md_drawn_212 ?_
                  refine lv_lstore (lv' := [(7, .long (x7_77 + ((q77_3.2.2.2 12 (Int32.toNatClampNeg (q77_4 ||| q12))) - (q77_3.2.2.2 12 (Int32.toNatClampNeg q77_4))))), (10, .int q77_4), (9, .int x9_77), (6, .int q77_3.1), (5, .int q12), (0, .ref (G.1 0)), (3, .int a3), (4, .int a4)]) hx0 hb d_Md_drawn_213 hl (by decide) rfl (fun ls hl => ?_)
                  refine lv_iinc (v := (x9_77 + (1 : Int32))) (lv' := [(9, .int (x9_77 + (1 : Int32))), (7, .long (x7_77 + ((q77_3.2.2.2 12 (Int32.toNatClampNeg (q77_4 ||| q12))) - (q77_3.2.2.2 12 (Int32.toNatClampNeg q77_4))))), (10, .int q77_4), (6, .int q77_3.1), (5, .int q12), (0, .ref (G.1 0)), (3, .int a3), (4, .int a4)]) hx0 hb d_Md_drawn_215 hl (k := 2) rfl rfl (by decide) rfl (fun ls hl => ?_)
                  refine lv_goto (tgt := 77) hx0 hb d_Md_drawn_218 (by decide) ?_
                  obtain rfl := Option.some.inj h
                  exact hx _ _ _ hZ (lv_sub hl [0, 1, 3, 4, 5, 6, 7] rfl)
          · replace hZ : ZZT G s q14.2.2.2 H locs := hZ
            replace hl : lv_has ls 13 [(7, .long q14.2.1), (0, .ref (G.1 0)), (3, .int a3), (4, .int a4)] := hl
            refine lv_lload hx0 hb d_Md_drawn_221 (lv_at hl 0 rfl) ?_
            refine lv_aload_n hx0 hb d_Md_drawn_223 rfl (lv_at hl 1 rfl) ?_
            refine fg_Md_rows hx0 hb hts hown hZ d_Md_drawn_224 ?_
            refine lv_i2l (v := Int32.toInt64 (q14.2.2.2.1 0 13)) hx0 hb d_Md_drawn_227 rfl ?_
            refine lv_iload_n hx0 hb d_Md_drawn_228 rfl (lv_at hl 2 rfl) ?_
            refine lv_i2l (v := Int32.toInt64 a3) hx0 hb d_Md_drawn_229 rfl ?_
            refine lv_lmul hx0 hb d_Md_drawn_230 ?_
            refine lv_iload hx0 hb d_Md_drawn_231 (lv_at hl 3 rfl) ?_
            obtain ⟨q15, hc16, h⟩ := bnd_some h
            refine k_Md_Md_part [.long q14.2.1, .long ((Int32.toInt64 (q14.2.2.2.1 0 13)) * (Int32.toInt64 a3)), .int a4] hx0 hb hml hts hown (c_Md_part l G q14.2.1 ((Int32.toInt64 (q14.2.2.2.1 0 13)) * (Int32.toInt64 a3)) a4 q14.2.2.2 q15 hc16) hZ rfl rfl ⟨Nat.le_of_ble_eq_true rfl, Nat.le_of_ble_eq_true rfl⟩ hl.1 rfl (Nat.le_of_ble_eq_true rfl) d_Md_drawn_233 (fun H locs hZ => ?_)
            obtain rfl := Option.some.inj h
            exact z_lretT hx0 hb hr hZ hlocks hQ d_Md_drawn_236
        · replace h := (if_neg c9).symm.trans h
          refine lv_lconst (v := (0 : Int64)) hx0 hb d_Md_drawn_44 (by decide) ?_
          obtain rfl := Option.some.inj h
          exact z_lretT hx0 hb hr hZ hlocks hQ d_Md_drawn_45
      · replace h := (if_pos c7).symm.trans h
        refine lv_ldc2 (v := (-1000000000000 : Int64)) hx0 hb hown (hts _ wk_Md_91) d_Md_drawn_33 ?_
        obtain rfl := Option.some.inj h
        exact z_lretT hx0 hb hr hZ hlocks hQ d_Md_drawn_36
