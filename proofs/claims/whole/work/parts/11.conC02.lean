abbrev rm_Me_brought : Room := ({ frames := 3, cells := 0, slots := 0, locals := 72 } : Room)
set_option maxHeartbeats 4000000 in
set_option maxRecDepth 100000 in
theorem c_Me_brought (l : Launch) (G : zG) (a1 : Int32) (a2 : Int32) (M : Mem) (r : Int64 × Mem) (h : p_Me_brought a1 a2 M = some r) : MetZC l G y_Me_brought (Cond.code y_Me_brought b_Me_brought 3 (some .long) :: zws) rm_Me_brought [.ref (G.1 19), .int a1, .int a2] M (some (.long r.1)) r.2 := by
  unfold p_Me_brought at h
  refine z_ofWC (lv := [(0, .ref (G.1 19)), (1, .int a1), (2, .int a2)]) (by decide) (Nat.le_of_ble_eq_true rfl) rfl (fun p e R s m args below meth c Q ls F hl hZ => ?_)
  obtain ⟨hx0, hb, hml, hr, hts, hown, hlocks, rfl, hQ⟩ := F
  refine lv_aload_n hx0 hb d_Me_brought_0 rfl (lv_at hl 0 rfl) ?_
  refine lv_iload_n hx0 hb d_Me_brought_1 rfl (lv_at hl 1 rfl) ?_
  refine lv_iload_n hx0 hb d_Me_brought_2 rfl (lv_at hl 2 rfl) ?_
  refine lv_ior hx0 hb d_Me_brought_3 ?_
  obtain ⟨q1, hc4, h⟩ := bnd_some h
  refine k_Me_Me_total [.int (a1 ||| a2)] hx0 hb hml hts hown (c_Me_total l G (a1 ||| a2) M q1 hc4) hZ rfl rfl ⟨Nat.le_of_ble_eq_true rfl, Nat.le_of_ble_eq_true rfl⟩ hl.1 rfl (Nat.le_of_ble_eq_true rfl) d_Me_brought_4 (fun H locs hZ => ?_)
  refine lv_aload_n hx0 hb d_Me_brought_7 rfl (lv_at hl 0 rfl) ?_
  refine lv_iload_n hx0 hb d_Me_brought_8 rfl (lv_at hl 1 rfl) ?_
  obtain ⟨q2, hc3, h⟩ := bnd_some h
  refine k_Me_Me_total [.int a1] hx0 hb hml hts hown (c_Me_total l G a1 q1.2 q2 hc3) hZ rfl rfl ⟨Nat.le_of_ble_eq_true rfl, Nat.le_of_ble_eq_true rfl⟩ hl.1 rfl (Nat.le_of_ble_eq_true rfl) d_Me_brought_9 (fun H locs hZ => ?_)
  refine lv_lsub hx0 hb d_Me_brought_12 ?_
  obtain rfl := Option.some.inj h
  exact z_lretC hx0 hb hr hZ hlocks hQ d_Me_brought_13
abbrev rm_Me_shareSum : Room := ({ frames := 4, cells := 0, slots := 0, locals := 94 } : Room)
set_option maxHeartbeats 4000000 in
set_option maxRecDepth 100000 in
theorem c_Me_shareSum (l : Launch) (G : zG) (a1 : Int32) (a2 : Int32) (M : Mem) (r : Int64 × Mem) (h : p_Me_shareSum a1 a2 M = some r) : MetZC l G y_Me_shareSum (Cond.code y_Me_shareSum b_Me_shareSum 11 (some .long) :: zws) rm_Me_shareSum [.ref (G.1 19), .int a1, .int a2] M (some (.long r.1)) r.2 := by
  unfold p_Me_shareSum at h
  refine z_ofWC (lv := [(0, .ref (G.1 19)), (1, .int a1), (2, .int a2)]) (by decide) (Nat.le_of_ble_eq_true rfl) rfl (fun p e R s m args below meth c Q ls F hl hZ => ?_)
  obtain ⟨hx0, hb, hml, hr, hts, hown, hlocks, rfl, hQ⟩ := F
  refine lv_aload_n hx0 hb d_Me_shareSum_0 rfl (lv_at hl 0 rfl) ?_
  refine fg_Me_groups hx0 hb hts hown hZ d_Me_shareSum_1 ?_
  obtain ⟨q1, hc7, h⟩ := bnd_some h
  refine k_Me_Gr_there [] hx0 hb hml hts hown (c_Gr_there l G  M q1 hc7) hZ rfl rfl ⟨Nat.le_of_ble_eq_true rfl, Nat.le_of_ble_eq_true rfl⟩ hl.1 rfl (Nat.le_of_ble_eq_true rfl) d_Me_shareSum_4 (fun H locs hZ => ?_)
  refine lv_iconst (v := (1 : Int32)) hx0 hb d_Me_shareSum_7 (by decide) ?_
  refine lv_iload_n hx0 hb d_Me_shareSum_8 rfl (lv_at hl 1 rfl) ?_
  refine lv_ishl hx0 hb d_Me_shareSum_9 ?_
  refine lv_iconst (v := (-1 : Int32)) hx0 hb d_Me_shareSum_10 (by decide) ?_
  refine lv_ixor hx0 hb d_Me_shareSum_11 ?_
  refine lv_iand hx0 hb d_Me_shareSum_12 ?_
  refine lv_istore_n (lv' := [(3, .int (q1 &&& (((1 : Int32) <<< (a1 &&& 31)) ^^^ (-1 : Int32)))), (0, .ref (G.1 19)), (1, .int a1), (2, .int a2)]) hx0 hb d_Me_shareSum_13 rfl hl (by decide) rfl (fun ls hl => ?_)
  refine lv_aload_n hx0 hb d_Me_shareSum_14 rfl (lv_at hl 1 rfl) ?_
  refine fg_Me_groups hx0 hb hts hown hZ d_Me_shareSum_15 ?_
  refine lv_iconst (v := (1 : Int32)) hx0 hb d_Me_shareSum_18 (by decide) ?_
  refine lv_iload_n hx0 hb d_Me_shareSum_19 rfl (lv_at hl 2 rfl) ?_
  refine lv_ishl hx0 hb d_Me_shareSum_20 ?_
  obtain ⟨q2, hc6, h⟩ := bnd_some h
  refine k_Me_Gr_columnsOf [.int ((1 : Int32) <<< (a1 &&& 31))] hx0 hb hml hts hown (c_Gr_columnsOf l G ((1 : Int32) <<< (a1 &&& 31)) M q2 hc6) hZ rfl rfl ⟨Nat.le_of_ble_eq_true rfl, Nat.le_of_ble_eq_true rfl⟩ hl.1 rfl (Nat.le_of_ble_eq_true rfl) d_Me_shareSum_21 (fun H locs hZ => ?_)
  refine lv_istore (lv' := [(4, .int q2), (3, .int (q1 &&& (((1 : Int32) <<< (a1 &&& 31)) ^^^ (-1 : Int32)))), (0, .ref (G.1 19)), (1, .int a1), (2, .int a2)]) hx0 hb d_Me_shareSum_24 hl (by decide) rfl (fun ls hl => ?_)
  refine lv_iload_n hx0 hb d_Me_shareSum_26 rfl (lv_at hl 1 rfl) ?_
  obtain ⟨q3, hc5, h⟩ := bnd_some h
  refine k_Me_In_bitCount [.int (q1 &&& (((1 : Int32) <<< (a1 &&& 31)) ^^^ (-1 : Int32)))] hx0 hb hml hts hown (c_In_bitCount l G (q1 &&& (((1 : Int32) <<< (a1 &&& 31)) ^^^ (-1 : Int32))) M q3 hc5) hZ rfl rfl ⟨Nat.le_of_ble_eq_true rfl, Nat.le_of_ble_eq_true rfl⟩ hl.1 rfl (Nat.le_of_ble_eq_true rfl) d_Me_shareSum_27 (fun H locs hZ => ?_)
  refine lv_istore (lv' := [(5, .int q3), (4, .int q2), (3, .int (q1 &&& (((1 : Int32) <<< (a1 &&& 31)) ^^^ (-1 : Int32)))), (0, .ref (G.1 19)), (1, .int a1), (2, .int a2)]) hx0 hb d_Me_shareSum_30 hl (by decide) rfl (fun ls hl => ?_)
  refine lv_lconst (v := (0 : Int64)) hx0 hb d_Me_shareSum_32 (by decide) ?_
  refine lv_lstore (lv' := [(6, .long (0 : Int64)), (5, .int q3), (4, .int q2), (3, .int (q1 &&& (((1 : Int32) <<< (a1 &&& 31)) ^^^ (-1 : Int32)))), (0, .ref (G.1 19)), (1, .int a1), (2, .int a2)]) hx0 hb d_Me_shareSum_33 hl (by decide) rfl (fun ls hl => ?_)
  refine lv_iconst (v := (0 : Int32)) hx0 hb d_Me_shareSum_35 (by decide) ?_
  refine lv_istore (lv' := [(8, .int (0 : Int32)), (6, .long (0 : Int64)), (5, .int q3), (4, .int q2), (3, .int (q1 &&& (((1 : Int32) <<< (a1 &&& 31)) ^^^ (-1 : Int32)))), (0, .ref (G.1 19)), (1, .int a1), (2, .int a2)]) hx0 hb d_Me_shareSum_36 hl (by decide) rfl (fun ls hl => ?_)
  obtain ⟨q4, hq8, h⟩ := bnd_some h
  refine W_itr (At := fun (s0 : Int64 × Int32 × Mem) => ∀ (H : Heap) (locs : List Loc) (ls : Array Slot), ZZC G s s0.2.2 H locs → lv_has ls 11 [(8, .int s0.2.1), (6, .long s0.1), (5, .int q3), (4, .int q2), (3, .int (q1 &&& (((1 : Int32) <<< (a1 &&& 31)) ^^^ (-1 : Int32)))), (0, .ref (G.1 19)), (2, .int a2)] → W p l e rm_Me_shareSum s m args below meth c H locs 0 0 Q (F0 m 38 ls [])) (Ex := fun (q0 : Int64 × Int32 × Mem) => ∀ (H : Heap) (locs : List Loc) (ls : Array Slot), ZZC G s q0.2.2 H locs → lv_has ls 11 [(6, .long q0.1)] → W p l e rm_Me_shareSum s m args below meth c H locs 0 0 Q (F0 m 100 ls [])) (fun s0 x h hx => ?_) _ _ q4 hq8 (fun H locs ls hZ hl => ?_) _ _ _ hZ (lv_sub hl [0, 1, 2, 3, 4, 5, 7] rfl)
  · obtain ⟨x6_38, x8_38, M_38⟩ := s0
    replace h : p_Me_shareSum_L38 a1 a2 q1 q2 q3 x6_38 x8_38 M_38 = some x := h
    unfold p_Me_shareSum_L38 at h
    intro H locs ls hZ hl
    replace hZ : ZZC G s M_38 H locs := hZ
    replace hl : lv_has ls 11 [(8, .int x8_38), (6, .long x6_38), (5, .int q3), (4, .int q2), (3, .int (q1 &&& (((1 : Int32) <<< (a1 &&& 31)) ^^^ (-1 : Int32)))), (0, .ref (G.1 19)), (2, .int a2)] := hl
    refine lv_iload hx0 hb d_Me_shareSum_38 (lv_at hl 0 rfl) ?_
    refine lv_iload_n hx0 hb d_Me_shareSum_40 rfl (lv_at hl 4 rfl) ?_
    refine lv_icmp_gt (tgt := 100) hx0 hb d_Me_shareSum_41 (by decide) (fun c38_1 => ?_) (fun c38_1 => ?_)
    · replace h := (if_pos c38_1).symm.trans h
      obtain rfl := Option.some.inj h
      exact hx _ _ _ hZ (lv_sub hl [1] rfl)
    · replace h := (if_neg c38_1).symm.trans h
      refine lv_iload hx0 hb d_Me_shareSum_44 (lv_at hl 0 rfl) ?_
      refine lv_iload_n hx0 hb d_Me_shareSum_46 rfl (lv_at hl 4 rfl) ?_
      refine lv_iconst (v := (-1 : Int32)) hx0 hb d_Me_shareSum_47 (by decide) ?_
      refine lv_ixor hx0 hb d_Me_shareSum_48 ?_
      refine lv_iand hx0 hb d_Me_shareSum_49 ?_
      refine lv_if_ne (tgt := 94) hx0 hb d_Me_shareSum_50 (by decide) (fun c38_2 => ?_) (fun c38_2 => ?_)
      · replace h := (if_neg c38_2).symm.trans h
        refine lv_iinc (v := (x8_38 + (1 : Int32))) (lv' := [(8, .int (x8_38 + (1 : Int32))), (6, .long x6_38), (5, .int q3), (4, .int q2), (3, .int (q1 &&& (((1 : Int32) <<< (a1 &&& 31)) ^^^ (-1 : Int32)))), (0, .ref (G.1 19)), (2, .int a2)]) hx0 hb d_Me_shareSum_94 hl (k := 0) rfl rfl (by decide) rfl (fun ls hl => ?_)
        refine lv_goto (tgt := 38) hx0 hb d_Me_shareSum_97 (by decide) ?_
        obtain rfl := Option.some.inj h
        exact hx _ _ _ hZ (lv_sub hl [0, 1, 2, 3, 4, 5, 6] rfl)
      · replace h := (if_pos c38_2).symm.trans h
        refine lv_iload_n hx0 hb d_Me_shareSum_53 rfl (lv_at hl 6 rfl) ?_
        refine lv_iconst (v := (1 : Int32)) hx0 hb d_Me_shareSum_54 (by decide) ?_
        refine lv_icmp_ne (tgt := 62) hx0 hb d_Me_shareSum_55 (by decide) (fun c38_3 => ?_) (fun c38_3 => ?_)
        · replace h := (if_neg c38_3).symm.trans h
          refine lv_iload hx0 hb d_Me_shareSum_62 (lv_at hl 0 rfl) ?_
          refine lv_iload hx0 hb d_Me_shareSum_64 (lv_at hl 2 rfl) ?_
          obtain ⟨q38_4, hc38_9, h⟩ := bnd_some h
          refine k_Me_Me_ordersAround [.int x8_38, .int q3] hx0 hb hml hts hown (c_Me_ordersAround l G x8_38 q3 M_38 q38_4 hc38_9) hZ rfl rfl ⟨Nat.le_of_ble_eq_true rfl, Nat.le_of_ble_eq_true rfl⟩ hl.1 rfl (Nat.le_of_ble_eq_true rfl) d_Me_shareSum_66 (fun H locs hZ => ?_)
          refine lv_lstore (lv' := [(9, .long q38_4), (8, .int x8_38), (6, .long x6_38), (5, .int q3), (4, .int q2), (3, .int (q1 &&& (((1 : Int32) <<< (a1 &&& 31)) ^^^ (-1 : Int32)))), (0, .ref (G.1 19)), (2, .int a2)]) hx0 hb d_Me_shareSum_69 hl (by decide) rfl (fun ls hl => ?_)
          refine lv_lload hx0 hb d_Me_shareSum_71 (lv_at hl 2 rfl) ?_
          refine lv_lload hx0 hb d_Me_shareSum_73 (lv_at hl 0 rfl) ?_
          refine lv_aload_n hx0 hb d_Me_shareSum_75 rfl (lv_at hl 6 rfl) ?_
          refine lv_aload_n hx0 hb d_Me_shareSum_76 rfl (lv_at hl 6 rfl) ?_
          refine fg_Me_groups hx0 hb hts hown hZ d_Me_shareSum_77 ?_
          refine lv_iload hx0 hb d_Me_shareSum_80 (lv_at hl 1 rfl) ?_
          obtain ⟨q38_5, hc38_8, h⟩ := bnd_some h
          refine k_Me_Gr_columnsOf [.int x8_38] hx0 hb hml hts hown (c_Gr_columnsOf l G x8_38 M_38 q38_5 hc38_8) hZ rfl rfl ⟨Nat.le_of_ble_eq_true rfl, Nat.le_of_ble_eq_true rfl⟩ hl.1 rfl (Nat.le_of_ble_eq_true rfl) d_Me_shareSum_82 (fun H locs hZ => ?_)
          refine lv_iload hx0 hb d_Me_shareSum_85 (lv_at hl 4 rfl) ?_
          obtain ⟨q38_6, hc38_7, h⟩ := bnd_some h
          refine k_Me_Me_brought [.int q38_5, .int q2] hx0 hb hml hts hown (c_Me_brought l G q38_5 q2 M_38 q38_6 hc38_7) hZ rfl rfl ⟨Nat.le_of_ble_eq_true rfl, Nat.le_of_ble_eq_true rfl⟩ hl.1 rfl (Nat.le_of_ble_eq_true rfl) d_Me_shareSum_87 (fun H locs hZ => ?_)
          refine lv_lmul hx0 hb d_Me_shareSum_90 ?_
          refine lv_ladd hx0 hb d_Me_shareSum_91 ?_
          refine lv_lstore (lv' := [(6, .long (x6_38 + (q38_4 * q38_6.1))), (9, .long q38_4), (8, .int x8_38), (5, .int q3), (4, .int q2), (3, .int (q1 &&& (((1 : Int32) <<< (a1 &&& 31)) ^^^ (-1 : Int32)))), (0, .ref (G.1 19)), (2, .int a2)]) hx0 hb d_Me_shareSum_92 hl (by decide) rfl (fun ls hl => ?_)
          refine lv_iinc (v := (x8_38 + (1 : Int32))) (lv' := [(8, .int (x8_38 + (1 : Int32))), (6, .long (x6_38 + (q38_4 * q38_6.1))), (9, .long q38_4), (5, .int q3), (4, .int q2), (3, .int (q1 &&& (((1 : Int32) <<< (a1 &&& 31)) ^^^ (-1 : Int32)))), (0, .ref (G.1 19)), (2, .int a2)]) hx0 hb d_Me_shareSum_94 hl (k := 2) rfl rfl (by decide) rfl (fun ls hl => ?_)
          refine lv_goto (tgt := 38) hx0 hb d_Me_shareSum_97 (by decide) ?_
          obtain rfl := Option.some.inj h
          exact hx _ _ _ hZ (lv_sub hl [0, 1, 3, 4, 5, 6, 7] rfl)
        · replace h := (if_pos c38_3).symm.trans h
          refine lv_lconst (v := (1 : Int64)) hx0 hb d_Me_shareSum_58 (by decide) ?_
          refine lv_goto (tgt := 69) hx0 hb d_Me_shareSum_59 (by decide) ?_
          refine lv_lstore (lv' := [(9, .long (1 : Int64)), (8, .int x8_38), (6, .long x6_38), (5, .int q3), (4, .int q2), (3, .int (q1 &&& (((1 : Int32) <<< (a1 &&& 31)) ^^^ (-1 : Int32)))), (0, .ref (G.1 19)), (2, .int a2)]) hx0 hb d_Me_shareSum_69 hl (by decide) rfl (fun ls hl => ?_)
          refine lv_lload hx0 hb d_Me_shareSum_71 (lv_at hl 2 rfl) ?_
          refine lv_lload hx0 hb d_Me_shareSum_73 (lv_at hl 0 rfl) ?_
          refine lv_aload_n hx0 hb d_Me_shareSum_75 rfl (lv_at hl 6 rfl) ?_
          refine lv_aload_n hx0 hb d_Me_shareSum_76 rfl (lv_at hl 6 rfl) ?_
          refine fg_Me_groups hx0 hb hts hown hZ d_Me_shareSum_77 ?_
          refine lv_iload hx0 hb d_Me_shareSum_80 (lv_at hl 1 rfl) ?_
          obtain ⟨q38_10, hc38_13, h⟩ := bnd_some h
          refine k_Me_Gr_columnsOf [.int x8_38] hx0 hb hml hts hown (c_Gr_columnsOf l G x8_38 M_38 q38_10 hc38_13) hZ rfl rfl ⟨Nat.le_of_ble_eq_true rfl, Nat.le_of_ble_eq_true rfl⟩ hl.1 rfl (Nat.le_of_ble_eq_true rfl) d_Me_shareSum_82 (fun H locs hZ => ?_)
          refine lv_iload hx0 hb d_Me_shareSum_85 (lv_at hl 4 rfl) ?_
          obtain ⟨q38_11, hc38_12, h⟩ := bnd_some h
          refine k_Me_Me_brought [.int q38_10, .int q2] hx0 hb hml hts hown (c_Me_brought l G q38_10 q2 M_38 q38_11 hc38_12) hZ rfl rfl ⟨Nat.le_of_ble_eq_true rfl, Nat.le_of_ble_eq_true rfl⟩ hl.1 rfl (Nat.le_of_ble_eq_true rfl) d_Me_shareSum_87 (fun H locs hZ => ?_)
          refine lv_lmul hx0 hb d_Me_shareSum_90 ?_
          refine lv_ladd hx0 hb d_Me_shareSum_91 ?_
          refine lv_lstore (lv' := [(6, .long (x6_38 + ((1 : Int64) * q38_11.1))), (9, .long (1 : Int64)), (8, .int x8_38), (5, .int q3), (4, .int q2), (3, .int (q1 &&& (((1 : Int32) <<< (a1 &&& 31)) ^^^ (-1 : Int32)))), (0, .ref (G.1 19)), (2, .int a2)]) hx0 hb d_Me_shareSum_92 hl (by decide) rfl (fun ls hl => ?_)
          refine lv_iinc (v := (x8_38 + (1 : Int32))) (lv' := [(8, .int (x8_38 + (1 : Int32))), (6, .long (x6_38 + ((1 : Int64) * q38_11.1))), (9, .long (1 : Int64)), (5, .int q3), (4, .int q2), (3, .int (q1 &&& (((1 : Int32) <<< (a1 &&& 31)) ^^^ (-1 : Int32)))), (0, .ref (G.1 19)), (2, .int a2)]) hx0 hb d_Me_shareSum_94 hl (k := 2) rfl rfl (by decide) rfl (fun ls hl => ?_)
          refine lv_goto (tgt := 38) hx0 hb d_Me_shareSum_97 (by decide) ?_
          obtain rfl := Option.some.inj h
          exact hx _ _ _ hZ (lv_sub hl [0, 1, 3, 4, 5, 6, 7] rfl)
  · replace hZ : ZZC G s q4.2.2 H locs := hZ
    replace hl : lv_has ls 11 [(6, .long q4.1)] := hl
    refine lv_lload hx0 hb d_Me_shareSum_100 (lv_at hl 0 rfl) ?_
    obtain rfl := Option.some.inj h
    exact z_lretC hx0 hb hr hZ hlocks hQ d_Me_shareSum_102
abbrev rm_Me_measureShares : Room := ({ frames := 5, cells := 0, slots := 0, locals := 124 } : Room)
set_option maxHeartbeats 4000000 in
set_option maxRecDepth 100000 in
theorem c_Me_measureShares (l : Launch) (G : zG)  (M : Mem) (r : Mem) (h : p_Me_measureShares  M = some r) : MetZC l G y_Me_measureShares (Cond.code y_Me_measureShares b_Me_measureShares 4 none :: zws) rm_Me_measureShares [.ref (G.1 19)] M none r := by
  unfold p_Me_measureShares at h
  refine z_ofWC (lv := [(0, .ref (G.1 19))]) (by decide) (Nat.le_of_ble_eq_true rfl) rfl (fun p e R s m args below meth c Q ls F hl hZ => ?_)
  obtain ⟨hx0, hb, hml, hr, hts, hown, hlocks, rfl, hQ⟩ := F
  refine lv_aload_n hx0 hb d_Me_measureShares_0 rfl (lv_at hl 0 rfl) ?_
  refine fg_Me_groups hx0 hb hts hown hZ d_Me_measureShares_1 ?_
  obtain ⟨q1, hc3, h⟩ := bnd_some h
  refine k_Me_Gr_there [] hx0 hb hml hts hown (c_Gr_there l G  M q1 hc3) hZ rfl rfl ⟨Nat.le_of_ble_eq_true rfl, Nat.le_of_ble_eq_true rfl⟩ hl.1 rfl (Nat.le_of_ble_eq_true rfl) d_Me_measureShares_4 (fun H locs hZ => ?_)
  refine lv_istore_n (lv' := [(1, .int q1), (0, .ref (G.1 19))]) hx0 hb d_Me_measureShares_7 rfl hl (by decide) rfl (fun ls hl => ?_)
  refine lv_iconst (v := (0 : Int32)) hx0 hb d_Me_measureShares_8 (by decide) ?_
  refine lv_istore_n (lv' := [(2, .int (0 : Int32)), (1, .int q1), (0, .ref (G.1 19))]) hx0 hb d_Me_measureShares_9 rfl hl (by decide) rfl (fun ls hl => ?_)
  obtain ⟨q2, hq4, h⟩ := bnd_some h
  refine W_itr (At := fun (s0 : Int32 × Mem) => ∀ (H : Heap) (locs : List Loc) (ls : Array Slot), ZZC G s s0.2 H locs → lv_has ls 4 [(2, .int s0.1), (1, .int q1), (0, .ref (G.1 19))] → W p l e rm_Me_measureShares s m args below meth c H locs 0 0 Q (F0 m 10 ls [])) (Ex := fun (q0 : Int32 × Mem) => ∀ (H : Heap) (locs : List Loc) (ls : Array Slot), ZZC G s q0.2 H locs → lv_has ls 4 [] → W p l e rm_Me_measureShares s m args below meth c H locs 0 0 Q (F0 m 60 ls [])) (fun s0 x h hx => ?_) _ _ q2 hq4 (fun H locs ls hZ hl => ?_) _ _ _ hZ (lv_sub hl [0, 1, 2] rfl)
  · obtain ⟨x2_10, M_10⟩ := s0
    replace h : p_Me_measureShares_L10 q1 x2_10 M_10 = some x := h
    unfold p_Me_measureShares_L10 at h
    intro H locs ls hZ hl
    replace hZ : ZZC G s M_10 H locs := hZ
    replace hl : lv_has ls 4 [(2, .int x2_10), (1, .int q1), (0, .ref (G.1 19))] := hl
    refine lv_iload_n hx0 hb d_Me_measureShares_10 rfl (lv_at hl 0 rfl) ?_
    refine lv_bipush (v := (6 : Int32)) hx0 hb d_Me_measureShares_11 (by decide) ?_
    refine lv_icmp_ge (tgt := 60) hx0 hb d_Me_measureShares_13 (by decide) (fun c10_1 => ?_) (fun c10_1 => ?_)
    · replace h := (if_pos c10_1).symm.trans h
      obtain rfl := Option.some.inj h
      exact hx _ _ _ hZ (lv_sub hl [] rfl)
    · replace h := (if_neg c10_1).symm.trans h
      refine lv_iload_n hx0 hb d_Me_measureShares_16 rfl (lv_at hl 1 rfl) ?_
      refine lv_iload_n hx0 hb d_Me_measureShares_17 rfl (lv_at hl 0 rfl) ?_
      refine lv_ishr hx0 hb d_Me_measureShares_18 ?_
      refine lv_iconst (v := (1 : Int32)) hx0 hb d_Me_measureShares_19 (by decide) ?_
      refine lv_iand hx0 hb d_Me_measureShares_20 ?_
      refine lv_iconst (v := (1 : Int32)) hx0 hb d_Me_measureShares_21 (by decide) ?_
      refine lv_icmp_ne (tgt := 29) hx0 hb d_Me_measureShares_22 (by decide) (fun c10_2 => ?_) (fun c10_2 => ?_)
      · replace h := (if_neg c10_2).symm.trans h
        refine lv_iconst (v := (0 : Int32)) hx0 hb d_Me_measureShares_29 (by decide) ?_
        refine lv_istore_n (lv' := [(3, .int (0 : Int32)), (2, .int x2_10), (1, .int q1), (0, .ref (G.1 19))]) hx0 hb d_Me_measureShares_30 rfl hl (by decide) rfl (fun ls hl => ?_)
        refine lv_aload_n hx0 hb d_Me_measureShares_31 rfl (lv_at hl 3 rfl) ?_
        refine fg_Me_sizes hx0 hb hts hown hZ d_Me_measureShares_32 ?_
        refine lv_iload_n hx0 hb d_Me_measureShares_35 rfl (lv_at hl 1 rfl) ?_
        refine lv_iload_n hx0 hb d_Me_measureShares_36 rfl (lv_at hl 0 rfl) ?_
        refine lv_if_eq (tgt := 52) hx0 hb d_Me_measureShares_37 (by decide) (fun c10_3 => ?_) (fun c10_3 => ?_)
        · refine lv_lconst (v := (0 : Int64)) hx0 hb d_Me_measureShares_52 (by decide) ?_
          obtain ⟨hi10_4, h⟩ := chk_some h
          refine z_lastoreC (k := 21) hx0 hb hZ hi10_4 d_Me_measureShares_53 (fun H locs hZ => ?_)
          obtain ⟨m10_5, em10_5, h⟩ := nm_some h
          rw [em10_5] at hZ
          refine lv_iinc (v := (x2_10 + (1 : Int32))) (lv' := [(2, .int (x2_10 + (1 : Int32))), (3, .int (0 : Int32)), (1, .int q1), (0, .ref (G.1 19))]) hx0 hb d_Me_measureShares_54 hl (k := 1) rfl rfl (by decide) rfl (fun ls hl => ?_)
          refine lv_goto (tgt := 10) hx0 hb d_Me_measureShares_57 (by decide) ?_
          obtain rfl := Option.some.inj h
          exact hx _ _ _ hZ (lv_sub hl [0, 2, 3] rfl)
        · exact absurd c10_3 (by decide)
      · replace h := (if_pos c10_2).symm.trans h
        refine lv_iconst (v := (1 : Int32)) hx0 hb d_Me_measureShares_25 (by decide) ?_
        refine lv_goto (tgt := 30) hx0 hb d_Me_measureShares_26 (by decide) ?_
        refine lv_istore_n (lv' := [(3, .int (1 : Int32)), (2, .int x2_10), (1, .int q1), (0, .ref (G.1 19))]) hx0 hb d_Me_measureShares_30 rfl hl (by decide) rfl (fun ls hl => ?_)
        refine lv_aload_n hx0 hb d_Me_measureShares_31 rfl (lv_at hl 3 rfl) ?_
        refine fg_Me_sizes hx0 hb hts hown hZ d_Me_measureShares_32 ?_
        refine lv_iload_n hx0 hb d_Me_measureShares_35 rfl (lv_at hl 1 rfl) ?_
        refine lv_iload_n hx0 hb d_Me_measureShares_36 rfl (lv_at hl 0 rfl) ?_
        refine lv_if_eq (tgt := 52) hx0 hb d_Me_measureShares_37 (by decide) (fun c10_6 => ?_) (fun c10_6 => ?_)
        · exact absurd c10_6 (by decide)
        · refine lv_aload_n hx0 hb d_Me_measureShares_40 rfl (lv_at hl 3 rfl) ?_
          refine lv_iload_n hx0 hb d_Me_measureShares_41 rfl (lv_at hl 1 rfl) ?_
          refine lv_iconst (v := (0 : Int32)) hx0 hb d_Me_measureShares_42 (by decide) ?_
          obtain ⟨q10_7, hc10_10, h⟩ := bnd_some h
          refine k_Me_Me_shareSum [.int x2_10, .int (0 : Int32)] hx0 hb hml hts hown (c_Me_shareSum l G x2_10 (0 : Int32) M_10 q10_7 hc10_10) hZ rfl rfl ⟨Nat.le_of_ble_eq_true rfl, Nat.le_of_ble_eq_true rfl⟩ hl.1 rfl (Nat.le_of_ble_eq_true rfl) d_Me_measureShares_43 (fun H locs hZ => ?_)
          refine m_abs_long_Me hx0 hb hml hts hown hl ⟨Nat.le_of_ble_eq_true rfl, Nat.le_of_ble_eq_true rfl⟩ (Nat.le_of_ble_eq_true rfl) d_Me_measureShares_46 ?_
          refine lv_goto (tgt := 53) hx0 hb d_Me_measureShares_49 (by decide) ?_
          obtain ⟨hi10_8, h⟩ := chk_some h
          refine z_lastoreC (k := 21) hx0 hb hZ hi10_8 d_Me_measureShares_53 (fun H locs hZ => ?_)
          obtain ⟨m10_9, em10_9, h⟩ := nm_some h
          rw [em10_9] at hZ
          refine lv_iinc (v := (x2_10 + (1 : Int32))) (lv' := [(2, .int (x2_10 + (1 : Int32))), (3, .int (1 : Int32)), (1, .int q1), (0, .ref (G.1 19))]) hx0 hb d_Me_measureShares_54 hl (k := 1) rfl rfl (by decide) rfl (fun ls hl => ?_)
          refine lv_goto (tgt := 10) hx0 hb d_Me_measureShares_57 (by decide) ?_
          obtain rfl := Option.some.inj h
          exact hx _ _ _ hZ (lv_sub hl [0, 2, 3] rfl)
  · replace hZ : ZZC G s q2.2 H locs := hZ
    replace hl : lv_has ls 4 [] := hl
    obtain rfl := Option.some.inj h
    exact z_vretC hx0 hb hr hZ hlocks hQ d_Me_measureShares_60
abbrev rm_Me_countAhead : Room := ({ frames := 0, cells := 0, slots := 0, locals := 0 } : Room)
set_option maxHeartbeats 4000000 in
set_option maxRecDepth 100000 in
theorem c_Me_countAhead (l : Launch) (G : zG) (a1 : Int32) (a2 : Int32) (M : Mem) (r : Int32) (h : p_Me_countAhead a1 a2 M = some r) : MetZC l G y_Me_countAhead (Cond.code y_Me_countAhead b_Me_countAhead 7 (some .int) :: zws) rm_Me_countAhead [.ref (G.1 19), .int a1, .int a2] M (some (.int r)) M := by
  unfold p_Me_countAhead at h
  refine z_ofWC (lv := [(0, .ref (G.1 19)), (1, .int a1), (2, .int a2)]) (by decide) (Nat.le_of_ble_eq_true rfl) rfl (fun p e R s m args below meth c Q ls F hl hZ => ?_)
  obtain ⟨hx0, hb, hml, hr, hts, hown, hlocks, rfl, hQ⟩ := F
  refine lv_iconst (v := (0 : Int32)) hx0 hb d_Me_countAhead_0 (by decide) ?_
  refine lv_istore_n (lv' := [(3, .int (0 : Int32)), (0, .ref (G.1 19)), (1, .int a1), (2, .int a2)]) hx0 hb d_Me_countAhead_1 rfl hl (by decide) rfl (fun ls hl => ?_)
  refine lv_iconst (v := (0 : Int32)) hx0 hb d_Me_countAhead_2 (by decide) ?_
  refine lv_istore (lv' := [(4, .int (0 : Int32)), (3, .int (0 : Int32)), (0, .ref (G.1 19)), (1, .int a1), (2, .int a2)]) hx0 hb d_Me_countAhead_3 hl (by decide) rfl (fun ls hl => ?_)
  obtain ⟨q1, hq2, h⟩ := bnd_some h
  refine W_itr (At := fun (s0 : Int32 × Int32) => ∀ (H : Heap) (locs : List Loc) (ls : Array Slot), ZZC G s M H locs → lv_has ls 7 [(4, .int s0.2), (3, .int s0.1), (0, .ref (G.1 19)), (1, .int a1), (2, .int a2)] → W p l e rm_Me_countAhead s m args below meth c H locs 0 0 Q (F0 m 5 ls [])) (Ex := fun (q0 : Int32 × Int32) => ∀ (H : Heap) (locs : List Loc) (ls : Array Slot), ZZC G s M H locs → lv_has ls 7 [(3, .int q0.1)] → W p l e rm_Me_countAhead s m args below meth c H locs 0 0 Q (F0 m 95 ls [])) (fun s0 x h hx => ?_) _ _ q1 hq2 (fun H locs ls hZ hl => ?_) _ _ _ hZ (lv_sub hl [0, 1, 2, 3, 4] rfl)
  · obtain ⟨x3_5, x4_5⟩ := s0
    replace h : p_Me_countAhead_L5 a1 a2 M x3_5 x4_5 = some x := h
    unfold p_Me_countAhead_L5 at h
    intro H locs ls hZ hl
    replace hZ : ZZC G s M H locs := hZ
    replace hl : lv_has ls 7 [(4, .int x4_5), (3, .int x3_5), (0, .ref (G.1 19)), (1, .int a1), (2, .int a2)] := hl
    refine lv_iload hx0 hb d_Me_countAhead_5 (lv_at hl 0 rfl) ?_
    refine lv_bipush (v := (6 : Int32)) hx0 hb d_Me_countAhead_7 (by decide) ?_
    refine lv_icmp_ge (tgt := 95) hx0 hb d_Me_countAhead_9 (by decide) (fun c5_1 => ?_) (fun c5_1 => ?_)
    · replace h := (if_pos c5_1).symm.trans h
      obtain rfl := Option.some.inj h
      exact hx _ _ _ hZ (lv_sub hl [1] rfl)
    · replace h := (if_neg c5_1).symm.trans h
      refine lv_aload_n hx0 hb d_Me_countAhead_12 rfl (lv_at hl 2 rfl) ?_
      refine fg_Me_sizes hx0 hb hts hown hZ d_Me_countAhead_13 ?_
      refine lv_iload hx0 hb d_Me_countAhead_16 (lv_at hl 0 rfl) ?_
      obtain ⟨hi5_2, h⟩ := chk_some h
      refine z_laloadC (k := 21) hx0 hb hZ hi5_2 d_Me_countAhead_18 ?_
      refine lv_aload_n hx0 hb d_Me_countAhead_19 rfl (lv_at hl 2 rfl) ?_
      refine fg_Me_sizes hx0 hb hts hown hZ d_Me_countAhead_20 ?_
      refine lv_iload_n hx0 hb d_Me_countAhead_23 rfl (lv_at hl 3 rfl) ?_
      obtain ⟨hi5_3, h⟩ := chk_some h
      refine z_laloadC (k := 21) hx0 hb hZ hi5_3 d_Me_countAhead_24 ?_
      refine W.lcmp hx0 hb d_Me_countAhead_25 ?_
      refine lv_if_ne (tgt := 39) hx0 hb d_Me_countAhead_26 (by decide) (fun c5_4 => ?_) (fun c5_4 => ?_)
      · replace h := (if_neg c5_4).symm.trans h
        refine lv_iconst (v := (0 : Int32)) hx0 hb d_Me_countAhead_39 (by decide) ?_
        refine lv_istore (lv' := [(5, .int (0 : Int32)), (4, .int x4_5), (3, .int x3_5), (0, .ref (G.1 19)), (1, .int a1), (2, .int a2)]) hx0 hb d_Me_countAhead_40 hl (by decide) rfl (fun ls hl => ?_)
        refine lv_aload_n hx0 hb d_Me_countAhead_42 rfl (lv_at hl 3 rfl) ?_
        refine fg_Me_sizes hx0 hb hts hown hZ d_Me_countAhead_43 ?_
        refine lv_iload hx0 hb d_Me_countAhead_46 (lv_at hl 1 rfl) ?_
        obtain ⟨hi5_5, h⟩ := chk_some h
        refine z_laloadC (k := 21) hx0 hb hZ hi5_5 d_Me_countAhead_48 ?_
        refine lv_aload_n hx0 hb d_Me_countAhead_49 rfl (lv_at hl 3 rfl) ?_
        refine fg_Me_sizes hx0 hb hts hown hZ d_Me_countAhead_50 ?_
        refine lv_iload_n hx0 hb d_Me_countAhead_53 rfl (lv_at hl 4 rfl) ?_
        obtain ⟨hi5_6, h⟩ := chk_some h
        refine z_laloadC (k := 21) hx0 hb hZ hi5_6 d_Me_countAhead_54 ?_
        refine W.lcmp hx0 hb d_Me_countAhead_55 ?_
        refine lv_if_gt (tgt := 64) hx0 hb d_Me_countAhead_56 (by decide) (fun c5_7 => ?_) (fun c5_7 => ?_)
        · replace h := (if_pos c5_7).symm.trans h
          refine lv_iconst (v := (1 : Int32)) hx0 hb d_Me_countAhead_64 (by decide) ?_
          refine lv_goto (tgt := 69) hx0 hb d_Me_countAhead_65 (by decide) ?_
          refine lv_istore (lv' := [(6, .int (1 : Int32)), (5, .int (0 : Int32)), (4, .int x4_5), (3, .int x3_5), (0, .ref (G.1 19)), (1, .int a1), (2, .int a2)]) hx0 hb d_Me_countAhead_69 hl (by decide) rfl (fun ls hl => ?_)
          refine lv_iload_n hx0 hb d_Me_countAhead_71 rfl (lv_at hl 6 rfl) ?_
          refine lv_iload hx0 hb d_Me_countAhead_72 (lv_at hl 2 rfl) ?_
          refine lv_ishr hx0 hb d_Me_countAhead_74 ?_
          refine lv_iconst (v := (1 : Int32)) hx0 hb d_Me_countAhead_75 (by decide) ?_
          refine lv_iand hx0 hb d_Me_countAhead_76 ?_
          refine lv_iconst (v := (1 : Int32)) hx0 hb d_Me_countAhead_77 (by decide) ?_
          refine lv_icmp_ne (tgt := 89) hx0 hb d_Me_countAhead_78 (by decide) (fun c5_8 => ?_) (fun c5_8 => ?_)
          · replace h := (if_neg c5_8).symm.trans h
            refine lv_iinc (v := (x4_5 + (1 : Int32))) (lv' := [(4, .int (x4_5 + (1 : Int32))), (6, .int (1 : Int32)), (5, .int (0 : Int32)), (3, .int x3_5), (0, .ref (G.1 19)), (1, .int a1), (2, .int a2)]) hx0 hb d_Me_countAhead_89 hl (k := 2) rfl rfl (by decide) rfl (fun ls hl => ?_)
            refine lv_goto (tgt := 5) hx0 hb d_Me_countAhead_92 (by decide) ?_
            obtain rfl := Option.some.inj h
            exact hx _ _ _ hZ (lv_sub hl [0, 3, 4, 5, 6] rfl)
          · replace h := (if_pos c5_8).symm.trans h
            refine lv_iload hx0 hb d_Me_countAhead_81 (lv_at hl 0 rfl) ?_
            refine lv_if_eq (tgt := 89) hx0 hb d_Me_countAhead_83 (by decide) (fun c5_9 => ?_) (fun c5_9 => ?_)
            · exact absurd c5_9 (by decide)
            · refine lv_iinc (v := (x3_5 + (1 : Int32))) (lv' := [(3, .int (x3_5 + (1 : Int32))), (6, .int (1 : Int32)), (5, .int (0 : Int32)), (4, .int x4_5), (0, .ref (G.1 19)), (1, .int a1), (2, .int a2)]) hx0 hb d_Me_countAhead_86 hl (k := 3) rfl rfl (by decide) rfl (fun ls hl => ?_)
              refine lv_iinc (v := (x4_5 + (1 : Int32))) (lv' := [(4, .int (x4_5 + (1 : Int32))), (3, .int (x3_5 + (1 : Int32))), (6, .int (1 : Int32)), (5, .int (0 : Int32)), (0, .ref (G.1 19)), (1, .int a1), (2, .int a2)]) hx0 hb d_Me_countAhead_89 hl (k := 3) rfl rfl (by decide) rfl (fun ls hl => ?_)
              refine lv_goto (tgt := 5) hx0 hb d_Me_countAhead_92 (by decide) ?_
              obtain rfl := Option.some.inj h
              exact hx _ _ _ hZ (lv_sub hl [0, 1, 4, 5, 6] rfl)
        · replace h := (if_neg c5_7).symm.trans h
          refine lv_iload hx0 hb d_Me_countAhead_59 (lv_at hl 0 rfl) ?_
          refine lv_if_eq (tgt := 68) hx0 hb d_Me_countAhead_61 (by decide) (fun c5_10 => ?_) (fun c5_10 => ?_)
          · refine lv_iconst (v := (0 : Int32)) hx0 hb d_Me_countAhead_68 (by decide) ?_
            refine lv_istore (lv' := [(6, .int (0 : Int32)), (5, .int (0 : Int32)), (4, .int x4_5), (3, .int x3_5), (0, .ref (G.1 19)), (1, .int a1), (2, .int a2)]) hx0 hb d_Me_countAhead_69 hl (by decide) rfl (fun ls hl => ?_)
            refine lv_iload_n hx0 hb d_Me_countAhead_71 rfl (lv_at hl 6 rfl) ?_
            refine lv_iload hx0 hb d_Me_countAhead_72 (lv_at hl 2 rfl) ?_
            refine lv_ishr hx0 hb d_Me_countAhead_74 ?_
            refine lv_iconst (v := (1 : Int32)) hx0 hb d_Me_countAhead_75 (by decide) ?_
            refine lv_iand hx0 hb d_Me_countAhead_76 ?_
            refine lv_iconst (v := (1 : Int32)) hx0 hb d_Me_countAhead_77 (by decide) ?_
            refine lv_icmp_ne (tgt := 89) hx0 hb d_Me_countAhead_78 (by decide) (fun c5_11 => ?_) (fun c5_11 => ?_)
            · replace h := (if_neg c5_11).symm.trans h
              refine lv_iinc (v := (x4_5 + (1 : Int32))) (lv' := [(4, .int (x4_5 + (1 : Int32))), (6, .int (0 : Int32)), (5, .int (0 : Int32)), (3, .int x3_5), (0, .ref (G.1 19)), (1, .int a1), (2, .int a2)]) hx0 hb d_Me_countAhead_89 hl (k := 2) rfl rfl (by decide) rfl (fun ls hl => ?_)
              refine lv_goto (tgt := 5) hx0 hb d_Me_countAhead_92 (by decide) ?_
              obtain rfl := Option.some.inj h
              exact hx _ _ _ hZ (lv_sub hl [0, 3, 4, 5, 6] rfl)
            · replace h := (if_pos c5_11).symm.trans h
              refine lv_iload hx0 hb d_Me_countAhead_81 (lv_at hl 0 rfl) ?_
              refine lv_if_eq (tgt := 89) hx0 hb d_Me_countAhead_83 (by decide) (fun c5_12 => ?_) (fun c5_12 => ?_)
              · refine lv_iinc (v := (x4_5 + (1 : Int32))) (lv' := [(4, .int (x4_5 + (1 : Int32))), (6, .int (0 : Int32)), (5, .int (0 : Int32)), (3, .int x3_5), (0, .ref (G.1 19)), (1, .int a1), (2, .int a2)]) hx0 hb d_Me_countAhead_89 hl (k := 2) rfl rfl (by decide) rfl (fun ls hl => ?_)
                refine lv_goto (tgt := 5) hx0 hb d_Me_countAhead_92 (by decide) ?_
                obtain rfl := Option.some.inj h
                exact hx _ _ _ hZ (lv_sub hl [0, 3, 4, 5, 6] rfl)
              · exact absurd c5_12 (by decide)
          · exact absurd c5_10 (by decide)
      · replace h := (if_pos c5_4).symm.trans h
        refine lv_iload hx0 hb d_Me_countAhead_29 (lv_at hl 0 rfl) ?_
        refine lv_iload_n hx0 hb d_Me_countAhead_31 rfl (lv_at hl 3 rfl) ?_
        refine lv_icmp_ge (tgt := 39) hx0 hb d_Me_countAhead_32 (by decide) (fun c5_13 => ?_) (fun c5_13 => ?_)
        · replace h := (if_pos c5_13).symm.trans h
          refine lv_iconst (v := (0 : Int32)) hx0 hb d_Me_countAhead_39 (by decide) ?_
          refine lv_istore (lv' := [(5, .int (0 : Int32)), (4, .int x4_5), (3, .int x3_5), (0, .ref (G.1 19)), (1, .int a1), (2, .int a2)]) hx0 hb d_Me_countAhead_40 hl (by decide) rfl (fun ls hl => ?_)
          refine lv_aload_n hx0 hb d_Me_countAhead_42 rfl (lv_at hl 3 rfl) ?_
          refine fg_Me_sizes hx0 hb hts hown hZ d_Me_countAhead_43 ?_
          refine lv_iload hx0 hb d_Me_countAhead_46 (lv_at hl 1 rfl) ?_
          obtain ⟨hi5_14, h⟩ := chk_some h
          refine z_laloadC (k := 21) hx0 hb hZ hi5_14 d_Me_countAhead_48 ?_
          refine lv_aload_n hx0 hb d_Me_countAhead_49 rfl (lv_at hl 3 rfl) ?_
          refine fg_Me_sizes hx0 hb hts hown hZ d_Me_countAhead_50 ?_
          refine lv_iload_n hx0 hb d_Me_countAhead_53 rfl (lv_at hl 4 rfl) ?_
          obtain ⟨hi5_15, h⟩ := chk_some h
          refine z_laloadC (k := 21) hx0 hb hZ hi5_15 d_Me_countAhead_54 ?_
          refine W.lcmp hx0 hb d_Me_countAhead_55 ?_
          refine lv_if_gt (tgt := 64) hx0 hb d_Me_countAhead_56 (by decide) (fun c5_16 => ?_) (fun c5_16 => ?_)
          · replace h := (if_pos c5_16).symm.trans h
            refine lv_iconst (v := (1 : Int32)) hx0 hb d_Me_countAhead_64 (by decide) ?_
            refine lv_goto (tgt := 69) hx0 hb d_Me_countAhead_65 (by decide) ?_
            refine lv_istore (lv' := [(6, .int (1 : Int32)), (5, .int (0 : Int32)), (4, .int x4_5), (3, .int x3_5), (0, .ref (G.1 19)), (1, .int a1), (2, .int a2)]) hx0 hb d_Me_countAhead_69 hl (by decide) rfl (fun ls hl => ?_)
            refine lv_iload_n hx0 hb d_Me_countAhead_71 rfl (lv_at hl 6 rfl) ?_
            refine lv_iload hx0 hb d_Me_countAhead_72 (lv_at hl 2 rfl) ?_
            refine lv_ishr hx0 hb d_Me_countAhead_74 ?_
            refine lv_iconst (v := (1 : Int32)) hx0 hb d_Me_countAhead_75 (by decide) ?_
            refine lv_iand hx0 hb d_Me_countAhead_76 ?_
            refine lv_iconst (v := (1 : Int32)) hx0 hb d_Me_countAhead_77 (by decide) ?_
            refine lv_icmp_ne (tgt := 89) hx0 hb d_Me_countAhead_78 (by decide) (fun c5_17 => ?_) (fun c5_17 => ?_)
            · replace h := (if_neg c5_17).symm.trans h
              refine lv_iinc (v := (x4_5 + (1 : Int32))) (lv' := [(4, .int (x4_5 + (1 : Int32))), (6, .int (1 : Int32)), (5, .int (0 : Int32)), (3, .int x3_5), (0, .ref (G.1 19)), (1, .int a1), (2, .int a2)]) hx0 hb d_Me_countAhead_89 hl (k := 2) rfl rfl (by decide) rfl (fun ls hl => ?_)
              refine lv_goto (tgt := 5) hx0 hb d_Me_countAhead_92 (by decide) ?_
              obtain rfl := Option.some.inj h
              exact hx _ _ _ hZ (lv_sub hl [0, 3, 4, 5, 6] rfl)
            · replace h := (if_pos c5_17).symm.trans h
              refine lv_iload hx0 hb d_Me_countAhead_81 (lv_at hl 0 rfl) ?_
              refine lv_if_eq (tgt := 89) hx0 hb d_Me_countAhead_83 (by decide) (fun c5_18 => ?_) (fun c5_18 => ?_)
              · exact absurd c5_18 (by decide)
              · refine lv_iinc (v := (x3_5 + (1 : Int32))) (lv' := [(3, .int (x3_5 + (1 : Int32))), (6, .int (1 : Int32)), (5, .int (0 : Int32)), (4, .int x4_5), (0, .ref (G.1 19)), (1, .int a1), (2, .int a2)]) hx0 hb d_Me_countAhead_86 hl (k := 3) rfl rfl (by decide) rfl (fun ls hl => ?_)
                refine lv_iinc (v := (x4_5 + (1 : Int32))) (lv' := [(4, .int (x4_5 + (1 : Int32))), (3, .int (x3_5 + (1 : Int32))), (6, .int (1 : Int32)), (5, .int (0 : Int32)), (0, .ref (G.1 19)), (1, .int a1), (2, .int a2)]) hx0 hb d_Me_countAhead_89 hl (k := 3) rfl rfl (by decide) rfl (fun ls hl => ?_)
                refine lv_goto (tgt := 5) hx0 hb d_Me_countAhead_92 (by decide) ?_
                obtain rfl := Option.some.inj h
                exact hx _ _ _ hZ (lv_sub hl [0, 1, 4, 5, 6] rfl)
          · replace h := (if_neg c5_16).symm.trans h
            refine lv_iload hx0 hb d_Me_countAhead_59 (lv_at hl 0 rfl) ?_
            refine lv_if_eq (tgt := 68) hx0 hb d_Me_countAhead_61 (by decide) (fun c5_19 => ?_) (fun c5_19 => ?_)
            · refine lv_iconst (v := (0 : Int32)) hx0 hb d_Me_countAhead_68 (by decide) ?_
              refine lv_istore (lv' := [(6, .int (0 : Int32)), (5, .int (0 : Int32)), (4, .int x4_5), (3, .int x3_5), (0, .ref (G.1 19)), (1, .int a1), (2, .int a2)]) hx0 hb d_Me_countAhead_69 hl (by decide) rfl (fun ls hl => ?_)
              refine lv_iload_n hx0 hb d_Me_countAhead_71 rfl (lv_at hl 6 rfl) ?_
              refine lv_iload hx0 hb d_Me_countAhead_72 (lv_at hl 2 rfl) ?_
              refine lv_ishr hx0 hb d_Me_countAhead_74 ?_
              refine lv_iconst (v := (1 : Int32)) hx0 hb d_Me_countAhead_75 (by decide) ?_
              refine lv_iand hx0 hb d_Me_countAhead_76 ?_
              refine lv_iconst (v := (1 : Int32)) hx0 hb d_Me_countAhead_77 (by decide) ?_
              refine lv_icmp_ne (tgt := 89) hx0 hb d_Me_countAhead_78 (by decide) (fun c5_20 => ?_) (fun c5_20 => ?_)
              · replace h := (if_neg c5_20).symm.trans h
                refine lv_iinc (v := (x4_5 + (1 : Int32))) (lv' := [(4, .int (x4_5 + (1 : Int32))), (6, .int (0 : Int32)), (5, .int (0 : Int32)), (3, .int x3_5), (0, .ref (G.1 19)), (1, .int a1), (2, .int a2)]) hx0 hb d_Me_countAhead_89 hl (k := 2) rfl rfl (by decide) rfl (fun ls hl => ?_)
                refine lv_goto (tgt := 5) hx0 hb d_Me_countAhead_92 (by decide) ?_
                obtain rfl := Option.some.inj h
                exact hx _ _ _ hZ (lv_sub hl [0, 3, 4, 5, 6] rfl)
              · replace h := (if_pos c5_20).symm.trans h
                refine lv_iload hx0 hb d_Me_countAhead_81 (lv_at hl 0 rfl) ?_
                refine lv_if_eq (tgt := 89) hx0 hb d_Me_countAhead_83 (by decide) (fun c5_21 => ?_) (fun c5_21 => ?_)
                · refine lv_iinc (v := (x4_5 + (1 : Int32))) (lv' := [(4, .int (x4_5 + (1 : Int32))), (6, .int (0 : Int32)), (5, .int (0 : Int32)), (3, .int x3_5), (0, .ref (G.1 19)), (1, .int a1), (2, .int a2)]) hx0 hb d_Me_countAhead_89 hl (k := 2) rfl rfl (by decide) rfl (fun ls hl => ?_)
                  refine lv_goto (tgt := 5) hx0 hb d_Me_countAhead_92 (by decide) ?_
                  obtain rfl := Option.some.inj h
                  exact hx _ _ _ hZ (lv_sub hl [0, 3, 4, 5, 6] rfl)
                · exact absurd c5_21 (by decide)
            · exact absurd c5_19 (by decide)
        · replace h := (if_neg c5_13).symm.trans h
          refine lv_iconst (v := (1 : Int32)) hx0 hb d_Me_countAhead_35 (by decide) ?_
          refine lv_goto (tgt := 40) hx0 hb d_Me_countAhead_36 (by decide) ?_
          refine lv_istore (lv' := [(5, .int (1 : Int32)), (4, .int x4_5), (3, .int x3_5), (0, .ref (G.1 19)), (1, .int a1), (2, .int a2)]) hx0 hb d_Me_countAhead_40 hl (by decide) rfl (fun ls hl => ?_)
          refine lv_aload_n hx0 hb d_Me_countAhead_42 rfl (lv_at hl 3 rfl) ?_
          refine fg_Me_sizes hx0 hb hts hown hZ d_Me_countAhead_43 ?_
          refine lv_iload hx0 hb d_Me_countAhead_46 (lv_at hl 1 rfl) ?_
          obtain ⟨hi5_22, h⟩ := chk_some h
          refine z_laloadC (k := 21) hx0 hb hZ hi5_22 d_Me_countAhead_48 ?_
          refine lv_aload_n hx0 hb d_Me_countAhead_49 rfl (lv_at hl 3 rfl) ?_
          refine fg_Me_sizes hx0 hb hts hown hZ d_Me_countAhead_50 ?_
          refine lv_iload_n hx0 hb d_Me_countAhead_53 rfl (lv_at hl 4 rfl) ?_
          obtain ⟨hi5_23, h⟩ := chk_some h
          refine z_laloadC (k := 21) hx0 hb hZ hi5_23 d_Me_countAhead_54 ?_
          refine W.lcmp hx0 hb d_Me_countAhead_55 ?_
          refine lv_if_gt (tgt := 64) hx0 hb d_Me_countAhead_56 (by decide) (fun c5_24 => ?_) (fun c5_24 => ?_)
          · replace h := (if_pos c5_24).symm.trans h
            refine lv_iconst (v := (1 : Int32)) hx0 hb d_Me_countAhead_64 (by decide) ?_
            refine lv_goto (tgt := 69) hx0 hb d_Me_countAhead_65 (by decide) ?_
            refine lv_istore (lv' := [(6, .int (1 : Int32)), (5, .int (1 : Int32)), (4, .int x4_5), (3, .int x3_5), (0, .ref (G.1 19)), (1, .int a1), (2, .int a2)]) hx0 hb d_Me_countAhead_69 hl (by decide) rfl (fun ls hl => ?_)
            refine lv_iload_n hx0 hb d_Me_countAhead_71 rfl (lv_at hl 6 rfl) ?_
            refine lv_iload hx0 hb d_Me_countAhead_72 (lv_at hl 2 rfl) ?_
            refine lv_ishr hx0 hb d_Me_countAhead_74 ?_
            refine lv_iconst (v := (1 : Int32)) hx0 hb d_Me_countAhead_75 (by decide) ?_
            refine lv_iand hx0 hb d_Me_countAhead_76 ?_
            refine lv_iconst (v := (1 : Int32)) hx0 hb d_Me_countAhead_77 (by decide) ?_
            refine lv_icmp_ne (tgt := 89) hx0 hb d_Me_countAhead_78 (by decide) (fun c5_25 => ?_) (fun c5_25 => ?_)
            · replace h := (if_neg c5_25).symm.trans h
              refine lv_iinc (v := (x4_5 + (1 : Int32))) (lv' := [(4, .int (x4_5 + (1 : Int32))), (6, .int (1 : Int32)), (5, .int (1 : Int32)), (3, .int x3_5), (0, .ref (G.1 19)), (1, .int a1), (2, .int a2)]) hx0 hb d_Me_countAhead_89 hl (k := 2) rfl rfl (by decide) rfl (fun ls hl => ?_)
              refine lv_goto (tgt := 5) hx0 hb d_Me_countAhead_92 (by decide) ?_
              obtain rfl := Option.some.inj h
              exact hx _ _ _ hZ (lv_sub hl [0, 3, 4, 5, 6] rfl)
            · replace h := (if_pos c5_25).symm.trans h
              refine lv_iload hx0 hb d_Me_countAhead_81 (lv_at hl 0 rfl) ?_
              refine lv_if_eq (tgt := 89) hx0 hb d_Me_countAhead_83 (by decide) (fun c5_26 => ?_) (fun c5_26 => ?_)
              · exact absurd c5_26 (by decide)
              · refine lv_iinc (v := (x3_5 + (1 : Int32))) (lv' := [(3, .int (x3_5 + (1 : Int32))), (6, .int (1 : Int32)), (5, .int (1 : Int32)), (4, .int x4_5), (0, .ref (G.1 19)), (1, .int a1), (2, .int a2)]) hx0 hb d_Me_countAhead_86 hl (k := 3) rfl rfl (by decide) rfl (fun ls hl => ?_)
                refine lv_iinc (v := (x4_5 + (1 : Int32))) (lv' := [(4, .int (x4_5 + (1 : Int32))), (3, .int (x3_5 + (1 : Int32))), (6, .int (1 : Int32)), (5, .int (1 : Int32)), (0, .ref (G.1 19)), (1, .int a1), (2, .int a2)]) hx0 hb d_Me_countAhead_89 hl (k := 3) rfl rfl (by decide) rfl (fun ls hl => ?_)
                refine lv_goto (tgt := 5) hx0 hb d_Me_countAhead_92 (by decide) ?_
                obtain rfl := Option.some.inj h
                exact hx _ _ _ hZ (lv_sub hl [0, 1, 4, 5, 6] rfl)
          · replace h := (if_neg c5_24).symm.trans h
            refine lv_iload hx0 hb d_Me_countAhead_59 (lv_at hl 0 rfl) ?_
            refine lv_if_eq (tgt := 68) hx0 hb d_Me_countAhead_61 (by decide) (fun c5_27 => ?_) (fun c5_27 => ?_)
            · exact absurd c5_27 (by decide)
            · refine lv_iconst (v := (1 : Int32)) hx0 hb d_Me_countAhead_64 (by decide) ?_
              refine lv_goto (tgt := 69) hx0 hb d_Me_countAhead_65 (by decide) ?_
              refine lv_istore (lv' := [(6, .int (1 : Int32)), (5, .int (1 : Int32)), (4, .int x4_5), (3, .int x3_5), (0, .ref (G.1 19)), (1, .int a1), (2, .int a2)]) hx0 hb d_Me_countAhead_69 hl (by decide) rfl (fun ls hl => ?_)
              refine lv_iload_n hx0 hb d_Me_countAhead_71 rfl (lv_at hl 6 rfl) ?_
              refine lv_iload hx0 hb d_Me_countAhead_72 (lv_at hl 2 rfl) ?_
              refine lv_ishr hx0 hb d_Me_countAhead_74 ?_
              refine lv_iconst (v := (1 : Int32)) hx0 hb d_Me_countAhead_75 (by decide) ?_
              refine lv_iand hx0 hb d_Me_countAhead_76 ?_
              refine lv_iconst (v := (1 : Int32)) hx0 hb d_Me_countAhead_77 (by decide) ?_
              refine lv_icmp_ne (tgt := 89) hx0 hb d_Me_countAhead_78 (by decide) (fun c5_28 => ?_) (fun c5_28 => ?_)
              · replace h := (if_neg c5_28).symm.trans h
                refine lv_iinc (v := (x4_5 + (1 : Int32))) (lv' := [(4, .int (x4_5 + (1 : Int32))), (6, .int (1 : Int32)), (5, .int (1 : Int32)), (3, .int x3_5), (0, .ref (G.1 19)), (1, .int a1), (2, .int a2)]) hx0 hb d_Me_countAhead_89 hl (k := 2) rfl rfl (by decide) rfl (fun ls hl => ?_)
                refine lv_goto (tgt := 5) hx0 hb d_Me_countAhead_92 (by decide) ?_
                obtain rfl := Option.some.inj h
                exact hx _ _ _ hZ (lv_sub hl [0, 3, 4, 5, 6] rfl)
              · replace h := (if_pos c5_28).symm.trans h
                refine lv_iload hx0 hb d_Me_countAhead_81 (lv_at hl 0 rfl) ?_
                refine lv_if_eq (tgt := 89) hx0 hb d_Me_countAhead_83 (by decide) (fun c5_29 => ?_) (fun c5_29 => ?_)
                · exact absurd c5_29 (by decide)
                · refine lv_iinc (v := (x3_5 + (1 : Int32))) (lv' := [(3, .int (x3_5 + (1 : Int32))), (6, .int (1 : Int32)), (5, .int (1 : Int32)), (4, .int x4_5), (0, .ref (G.1 19)), (1, .int a1), (2, .int a2)]) hx0 hb d_Me_countAhead_86 hl (k := 3) rfl rfl (by decide) rfl (fun ls hl => ?_)
                  refine lv_iinc (v := (x4_5 + (1 : Int32))) (lv' := [(4, .int (x4_5 + (1 : Int32))), (3, .int (x3_5 + (1 : Int32))), (6, .int (1 : Int32)), (5, .int (1 : Int32)), (0, .ref (G.1 19)), (1, .int a1), (2, .int a2)]) hx0 hb d_Me_countAhead_89 hl (k := 3) rfl rfl (by decide) rfl (fun ls hl => ?_)
                  refine lv_goto (tgt := 5) hx0 hb d_Me_countAhead_92 (by decide) ?_
                  obtain rfl := Option.some.inj h
                  exact hx _ _ _ hZ (lv_sub hl [0, 1, 4, 5, 6] rfl)
  · replace hZ : ZZC G s M H locs := hZ
    replace hl : lv_has ls 7 [(3, .int q1.1)] := hl
    refine lv_iload_n hx0 hb d_Me_countAhead_95 rfl (lv_at hl 0 rfl) ?_
    obtain rfl := Option.some.inj h
    exact z_iretC hx0 hb hr hZ hlocks hQ d_Me_countAhead_96
abbrev rm_Me_groupAtPlace : Room := ({ frames := 1, cells := 0, slots := 0, locals := 26 } : Room)
set_option maxHeartbeats 4000000 in
set_option maxRecDepth 100000 in
theorem c_Me_groupAtPlace (l : Launch) (G : zG) (a1 : Int32) (M : Mem) (r : Int32) (h : p_Me_groupAtPlace a1 M = some r) : MetZC l G y_Me_groupAtPlace (Cond.code y_Me_groupAtPlace b_Me_groupAtPlace 4 (some .int) :: zws) rm_Me_groupAtPlace [.ref (G.1 19), .int a1] M (some (.int r)) M := by
  unfold p_Me_groupAtPlace at h
  refine z_ofWC (lv := [(0, .ref (G.1 19)), (1, .int a1)]) (by decide) (Nat.le_of_ble_eq_true rfl) rfl (fun p e R s m args below meth c Q ls F hl hZ => ?_)
  obtain ⟨hx0, hb, hml, hr, hts, hown, hlocks, rfl, hQ⟩ := F
  refine lv_aload_n hx0 hb d_Me_groupAtPlace_0 rfl (lv_at hl 0 rfl) ?_
  refine fg_Me_groups hx0 hb hts hown hZ d_Me_groupAtPlace_1 ?_
  obtain ⟨q1, hc3, h⟩ := bnd_some h
  refine k_Me_Gr_there [] hx0 hb hml hts hown (c_Gr_there l G  M q1 hc3) hZ rfl rfl ⟨Nat.le_of_ble_eq_true rfl, Nat.le_of_ble_eq_true rfl⟩ hl.1 rfl (Nat.le_of_ble_eq_true rfl) d_Me_groupAtPlace_4 (fun H locs hZ => ?_)
  refine lv_istore_n (lv' := [(2, .int q1), (0, .ref (G.1 19)), (1, .int a1)]) hx0 hb d_Me_groupAtPlace_7 rfl hl (by decide) rfl (fun ls hl => ?_)
  refine lv_iconst (v := (0 : Int32)) hx0 hb d_Me_groupAtPlace_8 (by decide) ?_
  refine lv_istore_n (lv' := [(3, .int (0 : Int32)), (2, .int q1), (0, .ref (G.1 19)), (1, .int a1)]) hx0 hb d_Me_groupAtPlace_9 rfl hl (by decide) rfl (fun ls hl => ?_)
  obtain ⟨e_q2, hq4, h⟩ := bnd_some h
  refine W_itr (At := fun (s0 : Int32) => ∀ (H : Heap) (locs : List Loc) (ls : Array Slot), ZZC G s M H locs → lv_has ls 4 [(3, .int s0), (2, .int q1), (0, .ref (G.1 19)), (1, .int a1)] → W p l e rm_Me_groupAtPlace s m args below meth c H locs 0 0 Q (F0 m 10 ls [])) (Ex := fun (e0 : (Int32) ⊕ (Int32)) => match e0 with | .inl q0 => ∀ (H : Heap) (locs : List Loc) (ls : Array Slot), ZZC G s M H locs → lv_has ls 4 [] → W p l e rm_Me_groupAtPlace s m args below meth c H locs 0 0 Q (F0 m 43 ls []) | .inr t0 => t0 = r) (fun s0 x h hx => ?_) _ _ e_q2 hq4 ?_ _ _ _ hZ (lv_sub hl [0, 1, 2, 3] rfl)
  · obtain ⟨x3_10, rfl⟩ : ∃ z, z = s0 := ⟨_, rfl⟩
    replace h : p_Me_groupAtPlace_L10 a1 M q1 x3_10 = some x := h
    unfold p_Me_groupAtPlace_L10 at h
    intro H locs ls hZ hl
    replace hZ : ZZC G s M H locs := hZ
    replace hl : lv_has ls 4 [(3, .int x3_10), (2, .int q1), (0, .ref (G.1 19)), (1, .int a1)] := hl
    refine lv_iload_n hx0 hb d_Me_groupAtPlace_10 rfl (lv_at hl 0 rfl) ?_
    refine lv_bipush (v := (6 : Int32)) hx0 hb d_Me_groupAtPlace_11 (by decide) ?_
    refine lv_icmp_ge (tgt := 43) hx0 hb d_Me_groupAtPlace_13 (by decide) (fun c10_1 => ?_) (fun c10_1 => ?_)
    · replace h := (if_pos c10_1).symm.trans h
      obtain rfl := Option.some.inj h
      exact hx _ _ _ hZ (lv_sub hl [] rfl)
    · replace h := (if_neg c10_1).symm.trans h
      refine lv_iload_n hx0 hb d_Me_groupAtPlace_16 rfl (lv_at hl 1 rfl) ?_
      refine lv_iload_n hx0 hb d_Me_groupAtPlace_17 rfl (lv_at hl 0 rfl) ?_
      refine lv_ishr hx0 hb d_Me_groupAtPlace_18 ?_
      refine lv_iconst (v := (1 : Int32)) hx0 hb d_Me_groupAtPlace_19 (by decide) ?_
      refine lv_iand hx0 hb d_Me_groupAtPlace_20 ?_
      refine lv_iconst (v := (1 : Int32)) hx0 hb d_Me_groupAtPlace_21 (by decide) ?_
      refine lv_icmp_ne (tgt := 37) hx0 hb d_Me_groupAtPlace_22 (by decide) (fun c10_2 => ?_) (fun c10_2 => ?_)
      · replace h := (if_neg c10_2).symm.trans h
        refine lv_iinc (v := (x3_10 + (1 : Int32))) (lv' := [(3, .int (x3_10 + (1 : Int32))), (2, .int q1), (0, .ref (G.1 19)), (1, .int a1)]) hx0 hb d_Me_groupAtPlace_37 hl (k := 0) rfl rfl (by decide) rfl (fun ls hl => ?_)
        refine lv_goto (tgt := 10) hx0 hb d_Me_groupAtPlace_40 (by decide) ?_
        obtain rfl := Option.some.inj h
        exact hx _ _ _ hZ (lv_sub hl [0, 1, 2, 3] rfl)
      · replace h := (if_pos c10_2).symm.trans h
        refine lv_aload_n hx0 hb d_Me_groupAtPlace_25 rfl (lv_at hl 2 rfl) ?_
        refine lv_iload_n hx0 hb d_Me_groupAtPlace_26 rfl (lv_at hl 0 rfl) ?_
        refine lv_iload_n hx0 hb d_Me_groupAtPlace_27 rfl (lv_at hl 1 rfl) ?_
        obtain ⟨q10_3, hc10_5, h⟩ := bnd_some h
        refine k_Me_Me_countAhead [.int x3_10, .int q1] hx0 hb hml hts hown (c_Me_countAhead l G x3_10 q1 M q10_3 hc10_5) hZ rfl rfl ⟨Nat.le_of_ble_eq_true rfl, Nat.le_of_ble_eq_true rfl⟩ hl.1 rfl (Nat.le_of_ble_eq_true rfl) d_Me_groupAtPlace_28 (fun H locs hZ => ?_)
        refine lv_iload_n hx0 hb d_Me_groupAtPlace_31 rfl (lv_at hl 3 rfl) ?_
        refine lv_icmp_ne (tgt := 37) hx0 hb d_Me_groupAtPlace_32 (by decide) (fun c10_4 => ?_) (fun c10_4 => ?_)
        · replace h := (if_neg c10_4).symm.trans h
          refine lv_iinc (v := (x3_10 + (1 : Int32))) (lv' := [(3, .int (x3_10 + (1 : Int32))), (2, .int q1), (0, .ref (G.1 19)), (1, .int a1)]) hx0 hb d_Me_groupAtPlace_37 hl (k := 0) rfl rfl (by decide) rfl (fun ls hl => ?_)
          refine lv_goto (tgt := 10) hx0 hb d_Me_groupAtPlace_40 (by decide) ?_
          obtain rfl := Option.some.inj h
          exact hx _ _ _ hZ (lv_sub hl [0, 1, 2, 3] rfl)
        · replace h := (if_pos c10_4).symm.trans h
          refine lv_iload_n hx0 hb d_Me_groupAtPlace_35 rfl (lv_at hl 0 rfl) ?_
          obtain rfl := Option.some.inj h
          obtain rfl : x3_10 = r := hx
          exact z_iretC hx0 hb hr hZ hlocks hQ d_Me_groupAtPlace_36
  · cases e_q2 with
    | inr t0 => exact Option.some.inj h
    | inl q2 =>
      intro H locs ls hZ hl
      refine lv_iconst (v := (-1 : Int32)) hx0 hb d_Me_groupAtPlace_43 (by decide) ?_
      obtain rfl := Option.some.inj h
      exact z_iretC hx0 hb hr hZ hlocks hQ d_Me_groupAtPlace_44
abbrev rm_Me_shareWays : Room := ({ frames := 2, cells := 0, slots := 0, locals := 42 } : Room)
set_option maxHeartbeats 4000000 in
set_option maxRecDepth 100000 in
theorem c_Me_shareWays (l : Launch) (G : zG) (a1 : Int32) (M : Mem) (r : Int64) (h : p_Me_shareWays a1 M = some r) : MetZC l G y_Me_shareWays (Cond.code y_Me_shareWays b_Me_shareWays 3 (some .long) :: zws) rm_Me_shareWays [.ref (G.1 19), .int a1] M (some (.long r)) M := by
  unfold p_Me_shareWays at h
  refine z_ofWC (lv := [(0, .ref (G.1 19)), (1, .int a1)]) (by decide) (Nat.le_of_ble_eq_true rfl) rfl (fun p e R s m args below meth c Q ls F hl hZ => ?_)
  obtain ⟨hx0, hb, hml, hr, hts, hown, hlocks, rfl, hQ⟩ := F
  refine lv_aload_n hx0 hb d_Me_shareWays_0 rfl (lv_at hl 0 rfl) ?_
  refine fg_Me_groups hx0 hb hts hown hZ d_Me_shareWays_1 ?_
  obtain ⟨q1, hc5, h⟩ := bnd_some h
  refine k_Me_Gr_count [] hx0 hb hml hts hown (c_Gr_count l G  M q1 hc5) hZ rfl rfl ⟨Nat.le_of_ble_eq_true rfl, Nat.le_of_ble_eq_true rfl⟩ hl.1 rfl (Nat.le_of_ble_eq_true rfl) d_Me_shareWays_4 (fun H locs hZ => ?_)
  refine lv_istore_n (lv' := [(2, .int q1), (0, .ref (G.1 19)), (1, .int a1)]) hx0 hb d_Me_shareWays_7 rfl hl (by decide) rfl (fun ls hl => ?_)
  refine lv_iload_n hx0 hb d_Me_shareWays_8 rfl (lv_at hl 2 rfl) ?_
  refine lv_iconst (v := (1 : Int32)) hx0 hb d_Me_shareWays_9 (by decide) ?_
  refine lv_icmp_ne (tgt := 21) hx0 hb d_Me_shareWays_10 (by decide) (fun c2 => ?_) (fun c2 => ?_)
  · replace h := (if_neg c2).symm.trans h
    refine lv_iload_n hx0 hb d_Me_shareWays_21 rfl (lv_at hl 0 rfl) ?_
    obtain ⟨q3, hc4, h⟩ := bnd_some h
    refine k_Me_ES_factorial [.int q1] hx0 hb hml hts hown (c_ES_factorial l G q1 M q3 hc4) hZ rfl rfl ⟨Nat.le_of_ble_eq_true rfl, Nat.le_of_ble_eq_true rfl⟩ hl.1 rfl (Nat.le_of_ble_eq_true rfl) d_Me_shareWays_22 (fun H locs hZ => ?_)
    obtain rfl := Option.some.inj h
    exact z_lretC hx0 hb hr hZ hlocks hQ d_Me_shareWays_25
  · replace h := (if_pos c2).symm.trans h
    refine lv_lconst (v := (1 : Int64)) hx0 hb d_Me_shareWays_13 (by decide) ?_
    refine lv_iload_n hx0 hb d_Me_shareWays_14 rfl (lv_at hl 0 rfl) ?_
    refine lv_iconst (v := (1 : Int32)) hx0 hb d_Me_shareWays_15 (by decide) ?_
    refine lv_isub hx0 hb d_Me_shareWays_16 ?_
    refine lv_lshl (v := zlsh (1 : Int64) (q1 - (1 : Int32))) hx0 hb d_Me_shareWays_17 rfl ?_
    refine lv_goto (tgt := 25) hx0 hb d_Me_shareWays_18 (by decide) ?_
    obtain rfl := Option.some.inj h
    exact z_lretC hx0 hb hr hZ hlocks hQ d_Me_shareWays_25
abbrev rm_Me_togetherSum : Room := ({ frames := 4, cells := 0, slots := 0, locals := 94 } : Room)
set_option maxHeartbeats 4000000 in
set_option maxRecDepth 100000 in
theorem c_Me_togetherSum (l : Launch) (G : zG) (a1 : Int32) (a2 : Int32) (M : Mem) (r : Int64 × Mem) (h : p_Me_togetherSum a1 a2 M = some r) : MetZC l G y_Me_togetherSum (Cond.code y_Me_togetherSum b_Me_togetherSum 13 (some .long) :: zws) rm_Me_togetherSum [.ref (G.1 19), .int a1, .int a2] M (some (.long r.1)) r.2 := by
  unfold p_Me_togetherSum at h
  refine z_ofWC (lv := [(0, .ref (G.1 19)), (1, .int a1), (2, .int a2)]) (by decide) (Nat.le_of_ble_eq_true rfl) rfl (fun p e R s m args below meth c Q ls F hl hZ => ?_)
  obtain ⟨hx0, hb, hml, hr, hts, hown, hlocks, rfl, hQ⟩ := F
  refine lv_aload_n hx0 hb d_Me_togetherSum_0 rfl (lv_at hl 0 rfl) ?_
  refine fg_Me_groups hx0 hb hts hown hZ d_Me_togetherSum_1 ?_
  obtain ⟨q1, hc9, h⟩ := bnd_some h
  refine k_Me_Gr_there [] hx0 hb hml hts hown (c_Gr_there l G  M q1 hc9) hZ rfl rfl ⟨Nat.le_of_ble_eq_true rfl, Nat.le_of_ble_eq_true rfl⟩ hl.1 rfl (Nat.le_of_ble_eq_true rfl) d_Me_togetherSum_4 (fun H locs hZ => ?_)
  refine lv_iconst (v := (1 : Int32)) hx0 hb d_Me_togetherSum_7 (by decide) ?_
  refine lv_iload_n hx0 hb d_Me_togetherSum_8 rfl (lv_at hl 1 rfl) ?_
  refine lv_ishl hx0 hb d_Me_togetherSum_9 ?_
  refine lv_iconst (v := (-1 : Int32)) hx0 hb d_Me_togetherSum_10 (by decide) ?_
  refine lv_ixor hx0 hb d_Me_togetherSum_11 ?_
  refine lv_iand hx0 hb d_Me_togetherSum_12 ?_
  refine lv_iconst (v := (1 : Int32)) hx0 hb d_Me_togetherSum_13 (by decide) ?_
  refine lv_iload_n hx0 hb d_Me_togetherSum_14 rfl (lv_at hl 2 rfl) ?_
  refine lv_ishl hx0 hb d_Me_togetherSum_15 ?_
  refine lv_iconst (v := (-1 : Int32)) hx0 hb d_Me_togetherSum_16 (by decide) ?_
  refine lv_ixor hx0 hb d_Me_togetherSum_17 ?_
  refine lv_iand hx0 hb d_Me_togetherSum_18 ?_
  refine lv_istore_n (lv' := [(3, .int ((q1 &&& (((1 : Int32) <<< (a1 &&& 31)) ^^^ (-1 : Int32))) &&& (((1 : Int32) <<< (a2 &&& 31)) ^^^ (-1 : Int32)))), (0, .ref (G.1 19)), (1, .int a1), (2, .int a2)]) hx0 hb d_Me_togetherSum_19 rfl hl (by decide) rfl (fun ls hl => ?_)
  refine lv_aload_n hx0 hb d_Me_togetherSum_20 rfl (lv_at hl 1 rfl) ?_
  refine fg_Me_groups hx0 hb hts hown hZ d_Me_togetherSum_21 ?_
  refine lv_iconst (v := (1 : Int32)) hx0 hb d_Me_togetherSum_24 (by decide) ?_
  refine lv_iload_n hx0 hb d_Me_togetherSum_25 rfl (lv_at hl 2 rfl) ?_
  refine lv_ishl hx0 hb d_Me_togetherSum_26 ?_
  obtain ⟨q2, hc8, h⟩ := bnd_some h
  refine k_Me_Gr_columnsOf [.int ((1 : Int32) <<< (a1 &&& 31))] hx0 hb hml hts hown (c_Gr_columnsOf l G ((1 : Int32) <<< (a1 &&& 31)) M q2 hc8) hZ rfl rfl ⟨Nat.le_of_ble_eq_true rfl, Nat.le_of_ble_eq_true rfl⟩ hl.1 rfl (Nat.le_of_ble_eq_true rfl) d_Me_togetherSum_27 (fun H locs hZ => ?_)
  refine lv_istore (lv' := [(4, .int q2), (3, .int ((q1 &&& (((1 : Int32) <<< (a1 &&& 31)) ^^^ (-1 : Int32))) &&& (((1 : Int32) <<< (a2 &&& 31)) ^^^ (-1 : Int32)))), (0, .ref (G.1 19)), (1, .int a1), (2, .int a2)]) hx0 hb d_Me_togetherSum_30 hl (by decide) rfl (fun ls hl => ?_)
  refine lv_aload_n hx0 hb d_Me_togetherSum_32 rfl (lv_at hl 2 rfl) ?_
  refine fg_Me_groups hx0 hb hts hown hZ d_Me_togetherSum_33 ?_
  refine lv_iconst (v := (1 : Int32)) hx0 hb d_Me_togetherSum_36 (by decide) ?_
  refine lv_iload_n hx0 hb d_Me_togetherSum_37 rfl (lv_at hl 4 rfl) ?_
  refine lv_ishl hx0 hb d_Me_togetherSum_38 ?_
  obtain ⟨q3, hc7, h⟩ := bnd_some h
  refine k_Me_Gr_columnsOf [.int ((1 : Int32) <<< (a2 &&& 31))] hx0 hb hml hts hown (c_Gr_columnsOf l G ((1 : Int32) <<< (a2 &&& 31)) M q3 hc7) hZ rfl rfl ⟨Nat.le_of_ble_eq_true rfl, Nat.le_of_ble_eq_true rfl⟩ hl.1 rfl (Nat.le_of_ble_eq_true rfl) d_Me_togetherSum_39 (fun H locs hZ => ?_)
  refine lv_istore (lv' := [(5, .int q3), (4, .int q2), (3, .int ((q1 &&& (((1 : Int32) <<< (a1 &&& 31)) ^^^ (-1 : Int32))) &&& (((1 : Int32) <<< (a2 &&& 31)) ^^^ (-1 : Int32)))), (0, .ref (G.1 19)), (1, .int a1), (2, .int a2)]) hx0 hb d_Me_togetherSum_42 hl (by decide) rfl (fun ls hl => ?_)
  refine lv_iload_n hx0 hb d_Me_togetherSum_44 rfl (lv_at hl 2 rfl) ?_
  obtain ⟨q4, hc6, h⟩ := bnd_some h
  refine k_Me_In_bitCount [.int ((q1 &&& (((1 : Int32) <<< (a1 &&& 31)) ^^^ (-1 : Int32))) &&& (((1 : Int32) <<< (a2 &&& 31)) ^^^ (-1 : Int32)))] hx0 hb hml hts hown (c_In_bitCount l G ((q1 &&& (((1 : Int32) <<< (a1 &&& 31)) ^^^ (-1 : Int32))) &&& (((1 : Int32) <<< (a2 &&& 31)) ^^^ (-1 : Int32))) M q4 hc6) hZ rfl rfl ⟨Nat.le_of_ble_eq_true rfl, Nat.le_of_ble_eq_true rfl⟩ hl.1 rfl (Nat.le_of_ble_eq_true rfl) d_Me_togetherSum_45 (fun H locs hZ => ?_)
  refine lv_istore (lv' := [(6, .int q4), (5, .int q3), (4, .int q2), (3, .int ((q1 &&& (((1 : Int32) <<< (a1 &&& 31)) ^^^ (-1 : Int32))) &&& (((1 : Int32) <<< (a2 &&& 31)) ^^^ (-1 : Int32)))), (0, .ref (G.1 19)), (1, .int a1), (2, .int a2)]) hx0 hb d_Me_togetherSum_48 hl (by decide) rfl (fun ls hl => ?_)
  refine lv_lconst (v := (0 : Int64)) hx0 hb d_Me_togetherSum_50 (by decide) ?_
  refine lv_lstore (lv' := [(7, .long (0 : Int64)), (6, .int q4), (5, .int q3), (4, .int q2), (3, .int ((q1 &&& (((1 : Int32) <<< (a1 &&& 31)) ^^^ (-1 : Int32))) &&& (((1 : Int32) <<< (a2 &&& 31)) ^^^ (-1 : Int32)))), (0, .ref (G.1 19)), (1, .int a1), (2, .int a2)]) hx0 hb d_Me_togetherSum_51 hl (by decide) rfl (fun ls hl => ?_)
  refine lv_iconst (v := (0 : Int32)) hx0 hb d_Me_togetherSum_53 (by decide) ?_
  refine lv_istore (lv' := [(9, .int (0 : Int32)), (7, .long (0 : Int64)), (6, .int q4), (5, .int q3), (4, .int q2), (3, .int ((q1 &&& (((1 : Int32) <<< (a1 &&& 31)) ^^^ (-1 : Int32))) &&& (((1 : Int32) <<< (a2 &&& 31)) ^^^ (-1 : Int32)))), (0, .ref (G.1 19)), (1, .int a1), (2, .int a2)]) hx0 hb d_Me_togetherSum_54 hl (by decide) rfl (fun ls hl => ?_)
  obtain ⟨q5, hq10, h⟩ := bnd_some h
  refine W_itr (At := fun (s0 : Int64 × Int32 × Mem) => ∀ (H : Heap) (locs : List Loc) (ls : Array Slot), ZZC G s s0.2.2 H locs → lv_has ls 13 [(9, .int s0.2.1), (7, .long s0.1), (6, .int q4), (5, .int q3), (4, .int q2), (3, .int ((q1 &&& (((1 : Int32) <<< (a1 &&& 31)) ^^^ (-1 : Int32))) &&& (((1 : Int32) <<< (a2 &&& 31)) ^^^ (-1 : Int32)))), (0, .ref (G.1 19))] → W p l e rm_Me_togetherSum s m args below meth c H locs 0 0 Q (F0 m 56 ls [])) (Ex := fun (q0 : Int64 × Int32 × Mem) => ∀ (H : Heap) (locs : List Loc) (ls : Array Slot), ZZC G s q0.2.2 H locs → lv_has ls 13 [(7, .long q0.1)] → W p l e rm_Me_togetherSum s m args below meth c H locs 0 0 Q (F0 m 125 ls [])) (fun s0 x h hx => ?_) _ _ q5 hq10 (fun H locs ls hZ hl => ?_) _ _ _ hZ (lv_sub hl [0, 1, 2, 3, 4, 5, 6] rfl)
  · obtain ⟨x7_56, x9_56, M_56⟩ := s0
    replace h : p_Me_togetherSum_L56 a1 a2 q1 q2 q3 q4 x7_56 x9_56 M_56 = some x := h
    unfold p_Me_togetherSum_L56 at h
    intro H locs ls hZ hl
    replace hZ : ZZC G s M_56 H locs := hZ
    replace hl : lv_has ls 13 [(9, .int x9_56), (7, .long x7_56), (6, .int q4), (5, .int q3), (4, .int q2), (3, .int ((q1 &&& (((1 : Int32) <<< (a1 &&& 31)) ^^^ (-1 : Int32))) &&& (((1 : Int32) <<< (a2 &&& 31)) ^^^ (-1 : Int32)))), (0, .ref (G.1 19))] := hl
    refine lv_iload hx0 hb d_Me_togetherSum_56 (lv_at hl 0 rfl) ?_
    refine lv_iload_n hx0 hb d_Me_togetherSum_58 rfl (lv_at hl 5 rfl) ?_
    refine lv_icmp_gt (tgt := 125) hx0 hb d_Me_togetherSum_59 (by decide) (fun c56_1 => ?_) (fun c56_1 => ?_)
    · replace h := (if_pos c56_1).symm.trans h
      obtain rfl := Option.some.inj h
      exact hx _ _ _ hZ (lv_sub hl [1] rfl)
    · replace h := (if_neg c56_1).symm.trans h
      refine lv_iload hx0 hb d_Me_togetherSum_62 (lv_at hl 0 rfl) ?_
      refine lv_iload_n hx0 hb d_Me_togetherSum_64 rfl (lv_at hl 5 rfl) ?_
      refine lv_iconst (v := (-1 : Int32)) hx0 hb d_Me_togetherSum_65 (by decide) ?_
      refine lv_ixor hx0 hb d_Me_togetherSum_66 ?_
      refine lv_iand hx0 hb d_Me_togetherSum_67 ?_
      refine lv_if_ne (tgt := 119) hx0 hb d_Me_togetherSum_68 (by decide) (fun c56_2 => ?_) (fun c56_2 => ?_)
      · replace h := (if_neg c56_2).symm.trans h
        refine lv_iinc (v := (x9_56 + (1 : Int32))) (lv' := [(9, .int (x9_56 + (1 : Int32))), (7, .long x7_56), (6, .int q4), (5, .int q3), (4, .int q2), (3, .int ((q1 &&& (((1 : Int32) <<< (a1 &&& 31)) ^^^ (-1 : Int32))) &&& (((1 : Int32) <<< (a2 &&& 31)) ^^^ (-1 : Int32)))), (0, .ref (G.1 19))]) hx0 hb d_Me_togetherSum_119 hl (k := 0) rfl rfl (by decide) rfl (fun ls hl => ?_)
        refine lv_goto (tgt := 56) hx0 hb d_Me_togetherSum_122 (by decide) ?_
        obtain rfl := Option.some.inj h
        exact hx _ _ _ hZ (lv_sub hl [0, 1, 2, 3, 4, 5, 6] rfl)
      · replace h := (if_pos c56_2).symm.trans h
        refine lv_aload_n hx0 hb d_Me_togetherSum_71 rfl (lv_at hl 6 rfl) ?_
        refine fg_Me_groups hx0 hb hts hown hZ d_Me_togetherSum_72 ?_
        refine lv_iload hx0 hb d_Me_togetherSum_75 (lv_at hl 0 rfl) ?_
        obtain ⟨q56_3, hc56_10, h⟩ := bnd_some h
        refine k_Me_Gr_columnsOf [.int x9_56] hx0 hb hml hts hown (c_Gr_columnsOf l G x9_56 M_56 q56_3 hc56_10) hZ rfl rfl ⟨Nat.le_of_ble_eq_true rfl, Nat.le_of_ble_eq_true rfl⟩ hl.1 rfl (Nat.le_of_ble_eq_true rfl) d_Me_togetherSum_77 (fun H locs hZ => ?_)
        refine lv_istore (lv' := [(10, .int q56_3), (9, .int x9_56), (7, .long x7_56), (6, .int q4), (5, .int q3), (4, .int q2), (3, .int ((q1 &&& (((1 : Int32) <<< (a1 &&& 31)) ^^^ (-1 : Int32))) &&& (((1 : Int32) <<< (a2 &&& 31)) ^^^ (-1 : Int32)))), (0, .ref (G.1 19))]) hx0 hb d_Me_togetherSum_80 hl (by decide) rfl (fun ls hl => ?_)
        refine lv_aload_n hx0 hb d_Me_togetherSum_82 rfl (lv_at hl 7 rfl) ?_
        refine lv_iload hx0 hb d_Me_togetherSum_83 (lv_at hl 0 rfl) ?_
        refine lv_iload hx0 hb d_Me_togetherSum_85 (lv_at hl 4 rfl) ?_
        refine lv_ior hx0 hb d_Me_togetherSum_87 ?_
        refine lv_iload hx0 hb d_Me_togetherSum_88 (lv_at hl 5 rfl) ?_
        obtain ⟨q56_4, hc56_9, h⟩ := bnd_some h
        refine k_Me_Me_brought [.int (q56_3 ||| q3), .int q2] hx0 hb hml hts hown (c_Me_brought l G (q56_3 ||| q3) q2 M_56 q56_4 hc56_9) hZ rfl rfl ⟨Nat.le_of_ble_eq_true rfl, Nat.le_of_ble_eq_true rfl⟩ hl.1 rfl (Nat.le_of_ble_eq_true rfl) d_Me_togetherSum_90 (fun H locs hZ => ?_)
        refine lv_aload_n hx0 hb d_Me_togetherSum_93 rfl (lv_at hl 7 rfl) ?_
        refine lv_iload hx0 hb d_Me_togetherSum_94 (lv_at hl 0 rfl) ?_
        refine lv_iload hx0 hb d_Me_togetherSum_96 (lv_at hl 5 rfl) ?_
        obtain ⟨q56_5, hc56_8, h⟩ := bnd_some h
        refine k_Me_Me_brought [.int q56_3, .int q2] hx0 hb hml hts hown (c_Me_brought l G q56_3 q2 q56_4.2 q56_5 hc56_8) hZ rfl rfl ⟨Nat.le_of_ble_eq_true rfl, Nat.le_of_ble_eq_true rfl⟩ hl.1 rfl (Nat.le_of_ble_eq_true rfl) d_Me_togetherSum_98 (fun H locs hZ => ?_)
        refine lv_lsub hx0 hb d_Me_togetherSum_101 ?_
        refine lv_lstore (lv' := [(11, .long (q56_4.1 - q56_5.1)), (10, .int q56_3), (9, .int x9_56), (7, .long x7_56), (6, .int q4), (5, .int q3), (4, .int q2), (3, .int ((q1 &&& (((1 : Int32) <<< (a1 &&& 31)) ^^^ (-1 : Int32))) &&& (((1 : Int32) <<< (a2 &&& 31)) ^^^ (-1 : Int32)))), (0, .ref (G.1 19))]) hx0 hb d_Me_togetherSum_102 hl (by decide) rfl (fun ls hl => ?_)
        refine lv_lload hx0 hb d_Me_togetherSum_104 (lv_at hl 3 rfl) ?_
        refine lv_iload hx0 hb d_Me_togetherSum_106 (lv_at hl 2 rfl) ?_
        refine lv_iload hx0 hb d_Me_togetherSum_108 (lv_at hl 4 rfl) ?_
        obtain ⟨q56_6, hc56_7, h⟩ := bnd_some h
        refine k_Me_Me_ordersAround [.int x9_56, .int q4] hx0 hb hml hts hown (c_Me_ordersAround l G x9_56 q4 q56_5.2 q56_6 hc56_7) hZ rfl rfl ⟨Nat.le_of_ble_eq_true rfl, Nat.le_of_ble_eq_true rfl⟩ hl.1 rfl (Nat.le_of_ble_eq_true rfl) d_Me_togetherSum_110 (fun H locs hZ => ?_)
        refine lv_lload hx0 hb d_Me_togetherSum_113 (lv_at hl 0 rfl) ?_
        refine lv_lmul hx0 hb d_Me_togetherSum_115 ?_
        refine lv_ladd hx0 hb d_Me_togetherSum_116 ?_
        refine lv_lstore (lv' := [(7, .long (x7_56 + (q56_6 * (q56_4.1 - q56_5.1)))), (11, .long (q56_4.1 - q56_5.1)), (10, .int q56_3), (9, .int x9_56), (6, .int q4), (5, .int q3), (4, .int q2), (3, .int ((q1 &&& (((1 : Int32) <<< (a1 &&& 31)) ^^^ (-1 : Int32))) &&& (((1 : Int32) <<< (a2 &&& 31)) ^^^ (-1 : Int32)))), (0, .ref (G.1 19))]) hx0 hb d_Me_togetherSum_117 hl (by decide) rfl (fun ls hl => ?_)
        refine lv_iinc (v := (x9_56 + (1 : Int32))) (lv' := [(9, .int (x9_56 + (1 : Int32))), (7, .long (x7_56 + (q56_6 * (q56_4.1 - q56_5.1)))), (11, .long (q56_4.1 - q56_5.1)), (10, .int q56_3), (6, .int q4), (5, .int q3), (4, .int q2), (3, .int ((q1 &&& (((1 : Int32) <<< (a1 &&& 31)) ^^^ (-1 : Int32))) &&& (((1 : Int32) <<< (a2 &&& 31)) ^^^ (-1 : Int32)))), (0, .ref (G.1 19))]) hx0 hb d_Me_togetherSum_119 hl (k := 3) rfl rfl (by decide) rfl (fun ls hl => ?_)
        refine lv_goto (tgt := 56) hx0 hb d_Me_togetherSum_122 (by decide) ?_
        obtain rfl := Option.some.inj h
        exact hx _ _ _ hZ (lv_sub hl [0, 1, 4, 5, 6, 7, 8] rfl)
  · replace hZ : ZZC G s q5.2.2 H locs := hZ
    replace hl : lv_has ls 13 [(7, .long q5.1)] := hl
    refine lv_lload hx0 hb d_Me_togetherSum_125 (lv_at hl 0 rfl) ?_
    obtain rfl := Option.some.inj h
    exact z_lretC hx0 hb hr hZ hlocks hQ d_Me_togetherSum_127
