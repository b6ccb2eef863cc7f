abbrev rm_Md_next : Room := ({ frames := 0, cells := 0, slots := 0, locals := 0 } : Room)
set_option maxHeartbeats 4000000 in
set_option maxRecDepth 100000 in
theorem c_Md_next (l : Launch) (G : zG) (a1 : Int32) (M : Mem) (r : Int32) (h : p_Md_next a1 M = some r) : MetZT l G y_Md_next (Cond.code y_Md_next b_Md_next 5 (some .int) :: zws) rm_Md_next [.ref (G.1 0), .int a1] M (some (.int r)) M := by
  unfold p_Md_next at h
  refine z_ofWT (lv := [(0, .ref (G.1 0)), (1, .int a1)]) (by decide) (Nat.le_of_ble_eq_true rfl) rfl (fun p e R s m args below meth c Q ls F hl hZ => ?_)
  obtain ⟨hx0, hb, hml, hr, hts, hown, hlocks, rfl, hQ⟩ := F
  refine lv_aload_n hx0 hb d_Md_next_0 rfl (lv_at hl 0 rfl) ?_
  refine fg_Md_from hx0 hb hts hown hZ d_Md_next_1 ?_
  refine lv_iload_n hx0 hb d_Md_next_4 rfl (lv_at hl 1 rfl) ?_
  obtain ⟨hi1, h⟩ := chk_some h
  refine z_ialoadT (k := 16) hx0 hb hZ hi1 d_Md_next_5 ?_
  refine lv_iconst (v := (1 : Int32)) hx0 hb d_Md_next_6 (by decide) ?_
  refine lv_iadd hx0 hb d_Md_next_7 ?_
  refine lv_istore_n (lv' := [(2, .int ((M.1 16 (Int32.toNatClampNeg a1)) + (1 : Int32))), (0, .ref (G.1 0)), (1, .int a1)]) hx0 hb d_Md_next_8 rfl hl (by decide) rfl (fun ls hl => ?_)
  refine lv_iconst (v := (0 : Int32)) hx0 hb d_Md_next_9 (by decide) ?_
  refine lv_istore_n (lv' := [(3, .int (0 : Int32)), (2, .int ((M.1 16 (Int32.toNatClampNeg a1)) + (1 : Int32))), (0, .ref (G.1 0)), (1, .int a1)]) hx0 hb d_Md_next_10 rfl hl (by decide) rfl (fun ls hl => ?_)
  obtain ⟨q2, hq5, h⟩ := bnd_some h
  refine W_itr (At := fun (s0 : Int32 × Int32) => ∀ (H : Heap) (locs : List Loc) (ls : Array Slot), ZZT G s M H locs → lv_has ls 5 [(3, .int s0.2), (2, .int s0.1), (0, .ref (G.1 0)), (1, .int a1)] → W p l e rm_Md_next s m args below meth c H locs 0 0 Q (F0 m 11 ls [])) (Ex := fun (q0 : Int32 × Int32) => ∀ (H : Heap) (locs : List Loc) (ls : Array Slot), ZZT G s M H locs → lv_has ls 5 [(2, .int q0.1), (0, .ref (G.1 0)), (1, .int a1)] → W p l e rm_Md_next s m args below meth c H locs 0 0 Q (F0 m 91 ls [])) (fun s0 x h hx => ?_) _ _ q2 hq5 (fun H locs ls hZ hl => ?_) _ _ _ hZ (lv_sub hl [0, 1, 2, 3] rfl)
  · obtain ⟨x2_11, x3_11⟩ := s0
    replace h : p_Md_next_L11 a1 M x2_11 x3_11 = some x := h
    unfold p_Md_next_L11 at h
    intro H locs ls hZ hl
    replace hZ : ZZT G s M H locs := hZ
    replace hl : lv_has ls 5 [(3, .int x3_11), (2, .int x2_11), (0, .ref (G.1 0)), (1, .int a1)] := hl
    refine lv_iload_n hx0 hb d_Md_next_11 rfl (lv_at hl 1 rfl) ?_
    refine lv_aload_n hx0 hb d_Md_next_12 rfl (lv_at hl 2 rfl) ?_
    refine fg_Md_rows hx0 hb hts hown hZ d_Md_next_13 ?_
    refine lv_icmp_gt (tgt := 91) hx0 hb d_Md_next_16 (by decide) (fun c11_1 => ?_) (fun c11_1 => ?_)
    · replace h := (if_pos c11_1).symm.trans h
      obtain rfl := Option.some.inj h
      exact hx _ _ _ hZ (lv_sub hl [1, 2, 3] rfl)
    · replace h := (if_neg c11_1).symm.trans h
      refine lv_iload_n hx0 hb d_Md_next_19 rfl (lv_at hl 0 rfl) ?_
      refine lv_if_ne (tgt := 91) hx0 hb d_Md_next_20 (by decide) (fun c11_2 => ?_) (fun c11_2 => ?_)
      · replace h := (if_neg c11_2).symm.trans h
        obtain rfl := Option.some.inj h
        exact hx _ _ _ hZ (lv_sub hl [1, 2, 3] rfl)
      · replace h := (if_pos c11_2).symm.trans h
        refine lv_iconst (v := (1 : Int32)) hx0 hb d_Md_next_23 (by decide) ?_
        refine lv_istore_n (lv' := [(3, .int (1 : Int32)), (2, .int x2_11), (0, .ref (G.1 0)), (1, .int a1)]) hx0 hb d_Md_next_24 rfl hl (by decide) rfl (fun ls hl => ?_)
        refine lv_iconst (v := (0 : Int32)) hx0 hb d_Md_next_25 (by decide) ?_
        refine lv_istore (lv' := [(4, .int (0 : Int32)), (3, .int (1 : Int32)), (2, .int x2_11), (0, .ref (G.1 0)), (1, .int a1)]) hx0 hb d_Md_next_26 hl (by decide) rfl (fun ls hl => ?_)
        obtain ⟨q11_3, hq6, h⟩ := bnd_some h
        refine W_itr (At := fun (s0 : Int32 × Int32) => ∀ (H : Heap) (locs : List Loc) (ls : Array Slot), ZZT G s M H locs → lv_has ls 5 [(4, .int s0.2), (3, .int s0.1), (2, .int x2_11), (0, .ref (G.1 0)), (1, .int a1)] → W p l e rm_Md_next s m args below meth c H locs 0 0 Q (F0 m 28 ls [])) (Ex := fun (q0 : Int32 × Int32) => ∀ (H : Heap) (locs : List Loc) (ls : Array Slot), ZZT G s M H locs → lv_has ls 5 [(3, .int q0.1), (2, .int x2_11), (0, .ref (G.1 0)), (1, .int a1)] → W p l e rm_Md_next s m args below meth c H locs 0 0 Q (F0 m 76 ls [])) (fun s0 x h hx => ?_) _ _ q11_3 hq6 (fun H locs ls hZ hl => ?_) _ _ _ hZ (lv_sub hl [0, 1, 2, 3, 4] rfl)
        · obtain ⟨x3_28, x4_28⟩ := s0
          replace h : p_Md_next_L28 a1 M x2_11 x3_28 x4_28 = some x := h
          unfold p_Md_next_L28 at h
          intro H locs ls hZ hl
          replace hZ : ZZT G s M H locs := hZ
          replace hl : lv_has ls 5 [(4, .int x4_28), (3, .int x3_28), (2, .int x2_11), (0, .ref (G.1 0)), (1, .int a1)] := hl
          refine lv_iload hx0 hb d_Md_next_28 (lv_at hl 0 rfl) ?_
          refine lv_iload_n hx0 hb d_Md_next_30 rfl (lv_at hl 2 rfl) ?_
          refine lv_icmp_ge (tgt := 76) hx0 hb d_Md_next_31 (by decide) (fun c28_1 => ?_) (fun c28_1 => ?_)
          · replace h := (if_pos c28_1).symm.trans h
            obtain rfl := Option.some.inj h
            exact hx _ _ _ hZ (lv_sub hl [1, 2, 3, 4] rfl)
          · replace h := (if_neg c28_1).symm.trans h
            refine lv_iload_n hx0 hb d_Md_next_34 rfl (lv_at hl 1 rfl) ?_
            refine lv_if_eq (tgt := 68) hx0 hb d_Md_next_35 (by decide) (fun c28_2 => ?_) (fun c28_2 => ?_)
            · replace h := (if_pos c28_2).symm.trans h
              refine lv_iconst (v := (0 : Int32)) hx0 hb d_Md_next_68 (by decide) ?_
              refine lv_istore_n (lv' := [(3, .int (0 : Int32)), (4, .int x4_28), (2, .int x2_11), (0, .ref (G.1 0)), (1, .int a1)]) hx0 hb d_Md_next_69 rfl hl (by decide) rfl (fun ls hl => ?_)
              refine lv_iinc (v := (x4_28 + (1 : Int32))) (lv' := [(4, .int (x4_28 + (1 : Int32))), (3, .int (0 : Int32)), (2, .int x2_11), (0, .ref (G.1 0)), (1, .int a1)]) hx0 hb d_Md_next_70 hl (k := 1) rfl rfl (by decide) rfl (fun ls hl => ?_)
              refine lv_goto (tgt := 28) hx0 hb d_Md_next_73 (by decide) ?_
              obtain rfl := Option.some.inj h
              exact hx _ _ _ hZ (lv_sub hl [0, 1, 2, 3, 4] rfl)
            · replace h := (if_neg c28_2).symm.trans h
              refine lv_aload_n hx0 hb d_Md_next_38 rfl (lv_at hl 3 rfl) ?_
              refine fg_Md_items hx0 hb hts hown hZ d_Md_next_39 ?_
              refine lv_bipush (v := (6 : Int32)) hx0 hb d_Md_next_42 (by decide) ?_
              refine lv_iload hx0 hb d_Md_next_44 (lv_at hl 0 rfl) ?_
              refine lv_imul hx0 hb d_Md_next_46 ?_
              refine lv_iload_n hx0 hb d_Md_next_47 rfl (lv_at hl 4 rfl) ?_
              refine lv_iadd hx0 hb d_Md_next_48 ?_
              obtain ⟨hi28_3, h⟩ := chk_some h
              refine z_ialoadT (k := 10) hx0 hb hZ hi28_3 d_Md_next_49 ?_
              refine lv_aload_n hx0 hb d_Md_next_50 rfl (lv_at hl 3 rfl) ?_
              refine fg_Md_items hx0 hb hts hown hZ d_Md_next_51 ?_
              refine lv_bipush (v := (6 : Int32)) hx0 hb d_Md_next_54 (by decide) ?_
              refine lv_iload_n hx0 hb d_Md_next_56 rfl (lv_at hl 2 rfl) ?_
              refine lv_imul hx0 hb d_Md_next_57 ?_
              refine lv_iload_n hx0 hb d_Md_next_58 rfl (lv_at hl 4 rfl) ?_
              refine lv_iadd hx0 hb d_Md_next_59 ?_
              obtain ⟨hi28_4, h⟩ := chk_some h
              refine z_ialoadT (k := 10) hx0 hb hZ hi28_4 d_Md_next_60 ?_
              refine lv_icmp_eq (tgt := 68) hx0 hb d_Md_next_61 (by decide) (fun c28_5 => ?_) (fun c28_5 => ?_)
              · replace h := (if_pos c28_5).symm.trans h
                refine lv_iconst (v := (0 : Int32)) hx0 hb d_Md_next_68 (by decide) ?_
                refine lv_istore_n (lv' := [(3, .int (0 : Int32)), (4, .int x4_28), (2, .int x2_11), (0, .ref (G.1 0)), (1, .int a1)]) hx0 hb d_Md_next_69 rfl hl (by decide) rfl (fun ls hl => ?_)
                refine lv_iinc (v := (x4_28 + (1 : Int32))) (lv' := [(4, .int (x4_28 + (1 : Int32))), (3, .int (0 : Int32)), (2, .int x2_11), (0, .ref (G.1 0)), (1, .int a1)]) hx0 hb d_Md_next_70 hl (k := 1) rfl rfl (by decide) rfl (fun ls hl => ?_)
                refine lv_goto (tgt := 28) hx0 hb d_Md_next_73 (by decide) ?_
                obtain rfl := Option.some.inj h
                exact hx _ _ _ hZ (lv_sub hl [0, 1, 2, 3, 4] rfl)
              · replace h := (if_neg c28_5).symm.trans h
                refine lv_iconst (v := (1 : Int32)) hx0 hb d_Md_next_64 (by decide) ?_
                refine lv_goto (tgt := 69) hx0 hb d_Md_next_65 (by decide) ?_
                refine lv_istore_n (lv' := [(3, .int (1 : Int32)), (4, .int x4_28), (2, .int x2_11), (0, .ref (G.1 0)), (1, .int a1)]) hx0 hb d_Md_next_69 rfl hl (by decide) rfl (fun ls hl => ?_)
                refine lv_iinc (v := (x4_28 + (1 : Int32))) (lv' := [(4, .int (x4_28 + (1 : Int32))), (3, .int (1 : Int32)), (2, .int x2_11), (0, .ref (G.1 0)), (1, .int a1)]) hx0 hb d_Md_next_70 hl (k := 1) rfl rfl (by decide) rfl (fun ls hl => ?_)
                refine lv_goto (tgt := 28) hx0 hb d_Md_next_73 (by decide) ?_
                obtain rfl := Option.some.inj h
                exact hx _ _ _ hZ (lv_sub hl [0, 1, 2, 3, 4] rfl)
        · replace hZ : ZZT G s M H locs := hZ
          replace hl : lv_has ls 5 [(3, .int q11_3.1), (2, .int x2_11), (0, .ref (G.1 0)), (1, .int a1)] := hl
          refine lv_iload_n hx0 hb d_Md_next_76 rfl (lv_at hl 1 rfl) ?_
          refine lv_iload_n hx0 hb d_Md_next_77 rfl (lv_at hl 0 rfl) ?_
          refine lv_if_eq (tgt := 85) hx0 hb d_Md_next_78 (by decide) (fun c11_4 => ?_) (fun c11_4 => ?_)
          · replace h := (if_pos c11_4).symm.trans h
            refine lv_iconst (v := (1 : Int32)) hx0 hb d_Md_next_85 (by decide) ?_
            refine lv_iadd hx0 hb d_Md_next_86 ?_
            refine lv_istore_n (lv' := [(2, .int (x2_11 + (1 : Int32))), (3, .int q11_3.1), (0, .ref (G.1 0)), (1, .int a1)]) hx0 hb d_Md_next_87 rfl hl (by decide) rfl (fun ls hl => ?_)
            refine lv_goto (tgt := 11) hx0 hb d_Md_next_88 (by decide) ?_
            obtain rfl := Option.some.inj h
            exact hx _ _ _ hZ (lv_sub hl [1, 0, 2, 3] rfl)
          · replace h := (if_neg c11_4).symm.trans h
            refine lv_iconst (v := (0 : Int32)) hx0 hb d_Md_next_81 (by decide) ?_
            refine lv_goto (tgt := 86) hx0 hb d_Md_next_82 (by decide) ?_
            refine lv_iadd hx0 hb d_Md_next_86 ?_
            refine lv_istore_n (lv' := [(2, .int (x2_11 + (0 : Int32))), (3, .int q11_3.1), (0, .ref (G.1 0)), (1, .int a1)]) hx0 hb d_Md_next_87 rfl hl (by decide) rfl (fun ls hl => ?_)
            refine lv_goto (tgt := 11) hx0 hb d_Md_next_88 (by decide) ?_
            obtain rfl := Option.some.inj h
            exact hx _ _ _ hZ (lv_sub hl [1, 0, 2, 3] rfl)
  · replace hZ : ZZT G s M H locs := hZ
    replace hl : lv_has ls 5 [(2, .int q2.1), (0, .ref (G.1 0)), (1, .int a1)] := hl
    refine lv_aload_n hx0 hb d_Md_next_91 rfl (lv_at hl 1 rfl) ?_
    refine fg_Md_barred hx0 hb hts hown hZ d_Md_next_92 ?_
    refine lv_iload_n hx0 hb d_Md_next_95 rfl (lv_at hl 2 rfl) ?_
    obtain ⟨hi3, h⟩ := chk_some h
    refine z_baloadT (k := 9) hx0 hb hZ hi3 d_Md_next_96 ?_
    refine lv_if_eq (tgt := 109) hx0 hb d_Md_next_97 (by decide) (fun c4 => ?_) (fun c4 => ?_)
    · replace h := (if_pos c4).symm.trans h
      refine lv_iload_n hx0 hb d_Md_next_109 rfl (lv_at hl 0 rfl) ?_
      obtain rfl := Option.some.inj h
      exact z_iretT hx0 hb hr hZ hlocks hQ d_Md_next_110
    · replace h := (if_neg c4).symm.trans h
      refine lv_aload_n hx0 hb d_Md_next_100 rfl (lv_at hl 1 rfl) ?_
      refine fg_Md_rows hx0 hb hts hown hZ d_Md_next_101 ?_
      refine lv_iconst (v := (1 : Int32)) hx0 hb d_Md_next_104 (by decide) ?_
      refine lv_iadd hx0 hb d_Md_next_105 ?_
      refine lv_goto (tgt := 110) hx0 hb d_Md_next_106 (by decide) ?_
      obtain rfl := Option.some.inj h
      exact z_iretT hx0 hb hr hZ hlocks hQ d_Md_next_110
abbrev rm_Md_findNearest : Room := ({ frames := 1, cells := 0, slots := 0, locals := 26 } : Room)
set_option maxHeartbeats 4000000 in
set_option maxRecDepth 100000 in
theorem c_Md_findNearest (l : Launch) (G : zG) (a1 : Int32) (M : Mem) (r : Int32 × Mem) (h : p_Md_findNearest a1 M = some r) : MetZT l G y_Md_findNearest (Cond.code y_Md_findNearest b_Md_findNearest 5 (some .boolean) :: zws) rm_Md_findNearest [.ref (G.1 0), .int a1] M (some (.int r.1)) r.2 := by
  unfold p_Md_findNearest at h
  refine z_ofWT (lv := [(0, .ref (G.1 0)), (1, .int a1)]) (by decide) (Nat.le_of_ble_eq_true rfl) rfl (fun p e R s m args below meth c Q ls F hl hZ => ?_)
  obtain ⟨hx0, hb, hml, hr, hts, hown, hlocks, rfl, hQ⟩ := F
  refine lv_iconst (v := (0 : Int32)) hx0 hb d_Md_findNearest_0 (by decide) ?_
  refine lv_istore_n (lv' := [(2, .int (0 : Int32)), (0, .ref (G.1 0)), (1, .int a1)]) hx0 hb d_Md_findNearest_1 rfl hl (by decide) rfl (fun ls hl => ?_)
  obtain ⟨q1, hq4, h⟩ := bnd_some h
  refine W_itr (At := fun (s0 : Int32 × Mem) => ∀ (H : Heap) (locs : List Loc) (ls : Array Slot), ZZT G s s0.2 H locs → lv_has ls 5 [(2, .int s0.1), (0, .ref (G.1 0)), (1, .int a1)] → W p l e rm_Md_findNearest s m args below meth c H locs 0 0 Q (F0 m 2 ls [])) (Ex := fun (q0 : Int32 × Mem) => ∀ (H : Heap) (locs : List Loc) (ls : Array Slot), ZZT G s q0.2 H locs → lv_has ls 5 [(0, .ref (G.1 0)), (1, .int a1)] → W p l e rm_Md_findNearest s m args below meth c H locs 0 0 Q (F0 m 23 ls [])) (fun s0 x h hx => ?_) _ _ q1 hq4 (fun H locs ls hZ hl => ?_) _ _ _ hZ (lv_sub hl [0, 1, 2] rfl)
  · obtain ⟨x2_2, M_2⟩ := s0
    replace h : p_Md_findNearest_L2 x2_2 M_2 = some x := h
    unfold p_Md_findNearest_L2 at h
    intro H locs ls hZ hl
    replace hZ : ZZT G s M_2 H locs := hZ
    replace hl : lv_has ls 5 [(2, .int x2_2), (0, .ref (G.1 0)), (1, .int a1)] := hl
    refine lv_iload_n hx0 hb d_Md_findNearest_2 rfl (lv_at hl 0 rfl) ?_
    refine lv_aload_n hx0 hb d_Md_findNearest_3 rfl (lv_at hl 1 rfl) ?_
    refine fg_Md_columns hx0 hb hts hown hZ d_Md_findNearest_4 ?_
    refine lv_icmp_ge (tgt := 23) hx0 hb d_Md_findNearest_7 (by decide) (fun c2_1 => ?_) (fun c2_1 => ?_)
    · replace h := (if_pos c2_1).symm.trans h
      obtain rfl := Option.some.inj h
      exact hx _ _ _ hZ (lv_sub hl [1, 2] rfl)
    · replace h := (if_neg c2_1).symm.trans h
      refine lv_aload_n hx0 hb d_Md_findNearest_10 rfl (lv_at hl 1 rfl) ?_
      refine fg_Md_from hx0 hb hts hown hZ d_Md_findNearest_11 ?_
      refine lv_iload_n hx0 hb d_Md_findNearest_14 rfl (lv_at hl 0 rfl) ?_
      refine lv_iconst (v := (0 : Int32)) hx0 hb d_Md_findNearest_15 (by decide) ?_
      obtain ⟨hi2_2, h⟩ := chk_some h
      refine z_iastoreT (k := 16) hx0 hb hZ hi2_2 d_Md_findNearest_16 (fun H locs hZ => ?_)
      obtain ⟨m2_3, em2_3, h⟩ := nm_some h
      rw [em2_3] at hZ
      refine lv_iinc (v := (x2_2 + (1 : Int32))) (lv' := [(2, .int (x2_2 + (1 : Int32))), (0, .ref (G.1 0)), (1, .int a1)]) hx0 hb d_Md_findNearest_17 hl (k := 0) rfl rfl (by decide) rfl (fun ls hl => ?_)
      refine lv_goto (tgt := 2) hx0 hb d_Md_findNearest_20 (by decide) ?_
      obtain rfl := Option.some.inj h
      exact hx _ _ _ hZ (lv_sub hl [0, 1, 2] rfl)
  · replace hZ : ZZT G s q1.2 H locs := hZ
    replace hl : lv_has ls 5 [(0, .ref (G.1 0)), (1, .int a1)] := hl
    refine lv_iconst (v := (0 : Int32)) hx0 hb d_Md_findNearest_23 (by decide) ?_
    refine lv_istore_n (lv' := [(2, .int (0 : Int32)), (0, .ref (G.1 0)), (1, .int a1)]) hx0 hb d_Md_findNearest_24 rfl hl (by decide) rfl (fun ls hl => ?_)
    refine lv_iconst (v := (0 : Int32)) hx0 hb d_Md_findNearest_25 (by decide) ?_
    refine lv_istore_n (lv' := [(3, .int (0 : Int32)), (2, .int (0 : Int32)), (0, .ref (G.1 0)), (1, .int a1)]) hx0 hb d_Md_findNearest_26 rfl hl (by decide) rfl (fun ls hl => ?_)
    obtain ⟨q2, hq5, h⟩ := bnd_some h
    refine W_itr (At := fun (s0 : Int32 × Int32 × Mem) => ∀ (H : Heap) (locs : List Loc) (ls : Array Slot), ZZT G s s0.2.2 H locs → lv_has ls 5 [(3, .int s0.2.1), (2, .int s0.1), (0, .ref (G.1 0)), (1, .int a1)] → W p l e rm_Md_findNearest s m args below meth c H locs 0 0 Q (F0 m 27 ls [])) (Ex := fun (q0 : Int32 × Int32 × Mem) => ∀ (H : Heap) (locs : List Loc) (ls : Array Slot), ZZT G s q0.2.2 H locs → lv_has ls 5 [(2, .int q0.1)] → W p l e rm_Md_findNearest s m args below meth c H locs 0 0 Q (F0 m 160 ls [])) (fun s0 x h hx => ?_) _ _ q2 hq5 (fun H locs ls hZ hl => ?_) _ _ _ hZ (lv_sub hl [0, 1, 2, 3] rfl)
    · obtain ⟨x2_27, x3_27, M_27⟩ := s0
      replace h : p_Md_findNearest_L27 a1 x2_27 x3_27 M_27 = some x := h
      unfold p_Md_findNearest_L27 at h
      intro H locs ls hZ hl
      replace hZ : ZZT G s M_27 H locs := hZ
      replace hl : lv_has ls 5 [(3, .int x3_27), (2, .int x2_27), (0, .ref (G.1 0)), (1, .int a1)] := hl
      refine lv_iload_n hx0 hb d_Md_findNearest_27 rfl (lv_at hl 0 rfl) ?_
      refine lv_aload_n hx0 hb d_Md_findNearest_28 rfl (lv_at hl 2 rfl) ?_
      refine fg_Md_columns hx0 hb hts hown hZ d_Md_findNearest_29 ?_
      refine lv_icmp_ge (tgt := 160) hx0 hb d_Md_findNearest_32 (by decide) (fun c27_1 => ?_) (fun c27_1 => ?_)
      · replace h := (if_pos c27_1).symm.trans h
        obtain rfl := Option.some.inj h
        exact hx _ _ _ hZ (lv_sub hl [1] rfl)
      · replace h := (if_neg c27_1).symm.trans h
        refine lv_iconst (v := (0 : Int32)) hx0 hb d_Md_findNearest_35 (by decide) ?_
        refine lv_istore (lv' := [(4, .int (0 : Int32)), (3, .int x3_27), (2, .int x2_27), (0, .ref (G.1 0)), (1, .int a1)]) hx0 hb d_Md_findNearest_36 hl (by decide) rfl (fun ls hl => ?_)
        obtain ⟨q27_2, hq6, h⟩ := bnd_some h
        refine W_itr (At := fun (s0 : Int32 × Mem) => ∀ (H : Heap) (locs : List Loc) (ls : Array Slot), ZZT G s s0.2 H locs → lv_has ls 5 [(4, .int s0.1), (2, .int x2_27), (0, .ref (G.1 0)), (1, .int a1)] → W p l e rm_Md_findNearest s m args below meth c H locs 0 0 Q (F0 m 38 ls [])) (Ex := fun (q0 : Int32 × Mem) => ∀ (H : Heap) (locs : List Loc) (ls : Array Slot), ZZT G s q0.2 H locs → lv_has ls 5 [(2, .int x2_27), (0, .ref (G.1 0)), (1, .int a1)] → W p l e rm_Md_findNearest s m args below meth c H locs 0 0 Q (F0 m 78 ls [])) (fun s0 x h hx => ?_) _ _ q27_2 hq6 (fun H locs ls hZ hl => ?_) _ _ _ hZ (lv_sub hl [0, 2, 3, 4] rfl)
        · obtain ⟨x4_38, M_38⟩ := s0
          replace h : p_Md_findNearest_L38 x4_38 M_38 = some x := h
          unfold p_Md_findNearest_L38 at h
          intro H locs ls hZ hl
          replace hZ : ZZT G s M_38 H locs := hZ
          replace hl : lv_has ls 5 [(4, .int x4_38), (2, .int x2_27), (0, .ref (G.1 0)), (1, .int a1)] := hl
          refine lv_iload hx0 hb d_Md_findNearest_38 (lv_at hl 0 rfl) ?_
          refine lv_aload_n hx0 hb d_Md_findNearest_40 rfl (lv_at hl 2 rfl) ?_
          refine fg_Md_columns hx0 hb hts hown hZ d_Md_findNearest_41 ?_
          refine lv_icmp_ge (tgt := 78) hx0 hb d_Md_findNearest_44 (by decide) (fun c38_1 => ?_) (fun c38_1 => ?_)
          · replace h := (if_pos c38_1).symm.trans h
            obtain rfl := Option.some.inj h
            exact hx _ _ _ hZ (lv_sub hl [1, 2, 3] rfl)
          · replace h := (if_neg c38_1).symm.trans h
            refine lv_aload_n hx0 hb d_Md_findNearest_47 rfl (lv_at hl 2 rfl) ?_
            refine fg_Md_now hx0 hb hts hown hZ d_Md_findNearest_48 ?_
            refine lv_iload hx0 hb d_Md_findNearest_51 (lv_at hl 0 rfl) ?_
            refine lv_aload_n hx0 hb d_Md_findNearest_53 rfl (lv_at hl 2 rfl) ?_
            refine fg_Md_items hx0 hb hts hown hZ d_Md_findNearest_54 ?_
            refine lv_bipush (v := (6 : Int32)) hx0 hb d_Md_findNearest_57 (by decide) ?_
            refine lv_aload_n hx0 hb d_Md_findNearest_59 rfl (lv_at hl 2 rfl) ?_
            refine fg_Md_from hx0 hb hts hown hZ d_Md_findNearest_60 ?_
            refine lv_iload hx0 hb d_Md_findNearest_63 (lv_at hl 0 rfl) ?_
            obtain ⟨hi38_2, h⟩ := chk_some h
            refine z_ialoadT (k := 16) hx0 hb hZ hi38_2 d_Md_findNearest_65 ?_
            refine lv_imul hx0 hb d_Md_findNearest_66 ?_
            refine lv_iload hx0 hb d_Md_findNearest_67 (lv_at hl 0 rfl) ?_
            refine lv_iadd hx0 hb d_Md_findNearest_69 ?_
            obtain ⟨hi38_3, h⟩ := chk_some h
            refine z_ialoadT (k := 10) hx0 hb hZ hi38_3 d_Md_findNearest_70 ?_
            obtain ⟨hi38_4, h⟩ := chk_some h
            refine z_iastoreT (k := 11) hx0 hb hZ hi38_4 d_Md_findNearest_71 (fun H locs hZ => ?_)
            obtain ⟨m38_5, em38_5, h⟩ := nm_some h
            rw [em38_5] at hZ
            refine lv_iinc (v := (x4_38 + (1 : Int32))) (lv' := [(4, .int (x4_38 + (1 : Int32))), (2, .int x2_27), (0, .ref (G.1 0)), (1, .int a1)]) hx0 hb d_Md_findNearest_72 hl (k := 0) rfl rfl (by decide) rfl (fun ls hl => ?_)
            refine lv_goto (tgt := 38) hx0 hb d_Md_findNearest_75 (by decide) ?_
            obtain rfl := Option.some.inj h
            exact hx _ _ _ hZ (lv_sub hl [0, 1, 2, 3] rfl)
        · replace hZ : ZZT G s q27_2.2 H locs := hZ
          replace hl : lv_has ls 5 [(2, .int x2_27), (0, .ref (G.1 0)), (1, .int a1)] := hl
          refine lv_aload_n hx0 hb d_Md_findNearest_78 rfl (lv_at hl 1 rfl) ?_
          obtain ⟨q27_3, hc27_28, h⟩ := bnd_some h
          refine k_Md_Md_answerNow [] hx0 hb hml hts hown (c_Md_answerNow l G  q27_2.2 q27_3 hc27_28) hZ rfl rfl ⟨Nat.le_of_ble_eq_true rfl, Nat.le_of_ble_eq_true rfl⟩ hl.1 rfl (Nat.le_of_ble_eq_true rfl) d_Md_findNearest_79 (fun H locs hZ => ?_)
          refine lv_iload_n hx0 hb d_Md_findNearest_82 rfl (lv_at hl 2 rfl) ?_
          refine lv_i2l (v := Int32.toInt64 a1) hx0 hb d_Md_findNearest_83 rfl ?_
          refine W.lcmp hx0 hb d_Md_findNearest_84 ?_
          refine lv_if_lt (tgt := 103) hx0 hb d_Md_findNearest_85 (by decide) (fun c27_4 => ?_) (fun c27_4 => ?_)
          · replace h := (if_pos c27_4).symm.trans h
            refine lv_iconst (v := (0 : Int32)) hx0 hb d_Md_findNearest_103 (by decide) ?_
            refine lv_istore_n (lv' := [(3, .int (0 : Int32)), (2, .int x2_27), (0, .ref (G.1 0)), (1, .int a1)]) hx0 hb d_Md_findNearest_104 rfl hl (by decide) rfl (fun ls hl => ?_)
            obtain ⟨q27_5, hq7, h⟩ := bnd_some h
            refine W_itr (At := fun (s0 : Int32 × Mem) => ∀ (H : Heap) (locs : List Loc) (ls : Array Slot), ZZT G s s0.2 H locs → lv_has ls 5 [(3, .int s0.1), (2, .int x2_27), (0, .ref (G.1 0)), (1, .int a1)] → W p l e rm_Md_findNearest s m args below meth c H locs 0 0 Q (F0 m 105 ls [])) (Ex := fun (q0 : Int32 × Mem) => ∀ (H : Heap) (locs : List Loc) (ls : Array Slot), ZZT G s q0.2 H locs → lv_has ls 5 [(3, .int q0.1), (2, .int x2_27), (0, .ref (G.1 0)), (1, .int a1)] → W p l e rm_Md_findNearest s m args below meth c H locs 0 0 Q (F0 m 138 ls [])) (fun s0 x h hx => ?_) _ _ q27_5 hq7 (fun H locs ls hZ hl => ?_) _ _ _ hZ (lv_sub hl [0, 1, 2, 3] rfl)
            · obtain ⟨x3_105, M_105⟩ := s0
              replace h : p_Md_findNearest_L105 x3_105 M_105 = some x := h
              unfold p_Md_findNearest_L105 at h
              intro H locs ls hZ hl
              replace hZ : ZZT G s M_105 H locs := hZ
              replace hl : lv_has ls 5 [(3, .int x3_105), (2, .int x2_27), (0, .ref (G.1 0)), (1, .int a1)] := hl
              refine lv_iload_n hx0 hb d_Md_findNearest_105 rfl (lv_at hl 0 rfl) ?_
              refine lv_aload_n hx0 hb d_Md_findNearest_106 rfl (lv_at hl 2 rfl) ?_
              refine fg_Md_columns hx0 hb hts hown hZ d_Md_findNearest_107 ?_
              refine lv_icmp_ge (tgt := 138) hx0 hb d_Md_findNearest_110 (by decide) (fun c105_1 => ?_) (fun c105_1 => ?_)
              · replace h := (if_pos c105_1).symm.trans h
                obtain rfl := Option.some.inj h
                exact hx _ _ _ hZ (lv_sub hl [0, 1, 2, 3] rfl)
              · replace h := (if_neg c105_1).symm.trans h
                refine lv_aload_n hx0 hb d_Md_findNearest_113 rfl (lv_at hl 2 rfl) ?_
                refine lv_iload_n hx0 hb d_Md_findNearest_114 rfl (lv_at hl 0 rfl) ?_
                obtain ⟨q105_2, hc105_6, h⟩ := bnd_some h
                refine k_Md_Md_next [.int x3_105] hx0 hb hml hts hown (c_Md_next l G x3_105 M_105 q105_2 hc105_6) hZ rfl rfl ⟨Nat.le_of_ble_eq_true rfl, Nat.le_of_ble_eq_true rfl⟩ hl.1 rfl (Nat.le_of_ble_eq_true rfl) d_Md_findNearest_115 (fun H locs hZ => ?_)
                refine lv_aload_n hx0 hb d_Md_findNearest_118 rfl (lv_at hl 2 rfl) ?_
                refine fg_Md_rows hx0 hb hts hown hZ d_Md_findNearest_119 ?_
                refine lv_icmp_le (tgt := 138) hx0 hb d_Md_findNearest_122 (by decide) (fun c105_3 => ?_) (fun c105_3 => ?_)
                · replace h := (if_pos c105_3).symm.trans h
                  obtain rfl := Option.some.inj h
                  exact hx _ _ _ hZ (lv_sub hl [0, 1, 2, 3] rfl)
                · replace h := (if_neg c105_3).symm.trans h
                  refine lv_aload_n hx0 hb d_Md_findNearest_125 rfl (lv_at hl 2 rfl) ?_
                  refine fg_Md_from hx0 hb hts hown hZ d_Md_findNearest_126 ?_
                  refine lv_iload_n hx0 hb d_Md_findNearest_129 rfl (lv_at hl 0 rfl) ?_
                  refine lv_iconst (v := (0 : Int32)) hx0 hb d_Md_findNearest_130 (by decide) ?_
                  obtain ⟨hi105_4, h⟩ := chk_some h
                  refine z_iastoreT (k := 16) hx0 hb hZ hi105_4 d_Md_findNearest_131 (fun H locs hZ => ?_)
                  obtain ⟨m105_5, em105_5, h⟩ := nm_some h
                  rw [em105_5] at hZ
                  refine lv_iinc (v := (x3_105 + (1 : Int32))) (lv' := [(3, .int (x3_105 + (1 : Int32))), (2, .int x2_27), (0, .ref (G.1 0)), (1, .int a1)]) hx0 hb d_Md_findNearest_132 hl (k := 0) rfl rfl (by decide) rfl (fun ls hl => ?_)
                  refine lv_goto (tgt := 105) hx0 hb d_Md_findNearest_135 (by decide) ?_
                  obtain rfl := Option.some.inj h
                  exact hx _ _ _ hZ (lv_sub hl [0, 1, 2, 3] rfl)
            · replace hZ : ZZT G s q27_5.2 H locs := hZ
              replace hl : lv_has ls 5 [(3, .int q27_5.1), (2, .int x2_27), (0, .ref (G.1 0)), (1, .int a1)] := hl
              refine lv_iload_n hx0 hb d_Md_findNearest_138 rfl (lv_at hl 0 rfl) ?_
              refine lv_aload_n hx0 hb d_Md_findNearest_139 rfl (lv_at hl 2 rfl) ?_
              refine fg_Md_columns hx0 hb hts hown hZ d_Md_findNearest_140 ?_
              refine lv_icmp_ge (tgt := 27) hx0 hb d_Md_findNearest_143 (by decide) (fun c27_6 => ?_) (fun c27_6 => ?_)
              · replace h := (if_pos c27_6).symm.trans h
                obtain rfl := Option.some.inj h
                exact hx _ _ _ hZ (lv_sub hl [0, 1, 2, 3] rfl)
              · replace h := (if_neg c27_6).symm.trans h
                refine lv_aload_n hx0 hb d_Md_findNearest_146 rfl (lv_at hl 2 rfl) ?_
                refine fg_Md_from hx0 hb hts hown hZ d_Md_findNearest_147 ?_
                refine lv_iload_n hx0 hb d_Md_findNearest_150 rfl (lv_at hl 0 rfl) ?_
                refine lv_aload_n hx0 hb d_Md_findNearest_151 rfl (lv_at hl 2 rfl) ?_
                refine lv_iload_n hx0 hb d_Md_findNearest_152 rfl (lv_at hl 0 rfl) ?_
                obtain ⟨q27_7, hc27_10, h⟩ := bnd_some h
                refine k_Md_Md_next [.int q27_5.1] hx0 hb hml hts hown (c_Md_next l G q27_5.1 q27_5.2 q27_7 hc27_10) hZ rfl rfl ⟨Nat.le_of_ble_eq_true rfl, Nat.le_of_ble_eq_true rfl⟩ hl.1 rfl (Nat.le_of_ble_eq_true rfl) d_Md_findNearest_153 (fun H locs hZ => ?_)
                obtain ⟨hi27_8, h⟩ := chk_some h
                refine z_iastoreT (k := 16) hx0 hb hZ hi27_8 d_Md_findNearest_156 (fun H locs hZ => ?_)
                obtain ⟨m27_9, em27_9, h⟩ := nm_some h
                rw [em27_9] at hZ
                refine lv_goto (tgt := 27) hx0 hb d_Md_findNearest_157 (by decide) ?_
                obtain rfl := Option.some.inj h
                exact hx _ _ _ hZ (lv_sub hl [0, 1, 2, 3] rfl)
          · replace h := (if_neg c27_4).symm.trans h
            refine lv_aload_n hx0 hb d_Md_findNearest_88 rfl (lv_at hl 1 rfl) ?_
            refine lv_iload_n hx0 hb d_Md_findNearest_89 rfl (lv_at hl 0 rfl) ?_
            refine lv_if_ne (tgt := 97) hx0 hb d_Md_findNearest_90 (by decide) (fun c27_11 => ?_) (fun c27_11 => ?_)
            · replace h := (if_neg c27_11).symm.trans h
              refine lv_iconst (v := (0 : Int32)) hx0 hb d_Md_findNearest_97 (by decide) ?_
              obtain ⟨q27_12, hc27_19, h⟩ := bnd_some h
              refine k_Md_Md_hold [.int (0 : Int32)] hx0 hb hml hts hown (c_Md_hold l G (0 : Int32) q27_2.2 q27_12 hc27_19) hZ rfl rfl ⟨Nat.le_of_ble_eq_true rfl, Nat.le_of_ble_eq_true rfl⟩ hl.1 rfl (Nat.le_of_ble_eq_true rfl) d_Md_findNearest_98 (fun H locs hZ => ?_)
              refine lv_iconst (v := (1 : Int32)) hx0 hb d_Md_findNearest_101 (by decide) ?_
              refine lv_istore_n (lv' := [(2, .int (1 : Int32)), (0, .ref (G.1 0)), (1, .int a1)]) hx0 hb d_Md_findNearest_102 rfl hl (by decide) rfl (fun ls hl => ?_)
              refine lv_iconst (v := (0 : Int32)) hx0 hb d_Md_findNearest_103 (by decide) ?_
              refine lv_istore_n (lv' := [(3, .int (0 : Int32)), (2, .int (1 : Int32)), (0, .ref (G.1 0)), (1, .int a1)]) hx0 hb d_Md_findNearest_104 rfl hl (by decide) rfl (fun ls hl => ?_)
              obtain ⟨q27_13, hq8, h⟩ := bnd_some h
              refine W_itr (At := fun (s0 : Int32 × Mem) => ∀ (H : Heap) (locs : List Loc) (ls : Array Slot), ZZT G s s0.2 H locs → lv_has ls 5 [(3, .int s0.1), (2, .int (1 : Int32)), (0, .ref (G.1 0)), (1, .int a1)] → W p l e rm_Md_findNearest s m args below meth c H locs 0 0 Q (F0 m 105 ls [])) (Ex := fun (q0 : Int32 × Mem) => ∀ (H : Heap) (locs : List Loc) (ls : Array Slot), ZZT G s q0.2 H locs → lv_has ls 5 [(3, .int q0.1), (2, .int (1 : Int32)), (0, .ref (G.1 0)), (1, .int a1)] → W p l e rm_Md_findNearest s m args below meth c H locs 0 0 Q (F0 m 138 ls [])) (fun s0 x h hx => ?_) _ _ q27_13 hq8 (fun H locs ls hZ hl => ?_) _ _ _ hZ (lv_sub hl [0, 1, 2, 3] rfl)
              · obtain ⟨x3_105, M_105⟩ := s0
                replace h : p_Md_findNearest_L105 x3_105 M_105 = some x := h
                unfold p_Md_findNearest_L105 at h
                intro H locs ls hZ hl
                replace hZ : ZZT G s M_105 H locs := hZ
                replace hl : lv_has ls 5 [(3, .int x3_105), (2, .int (1 : Int32)), (0, .ref (G.1 0)), (1, .int a1)] := hl
                refine lv_iload_n hx0 hb d_Md_findNearest_105 rfl (lv_at hl 0 rfl) ?_
                refine lv_aload_n hx0 hb d_Md_findNearest_106 rfl (lv_at hl 2 rfl) ?_
                refine fg_Md_columns hx0 hb hts hown hZ d_Md_findNearest_107 ?_
                refine lv_icmp_ge (tgt := 138) hx0 hb d_Md_findNearest_110 (by decide) (fun c105_1 => ?_) (fun c105_1 => ?_)
                · replace h := (if_pos c105_1).symm.trans h
                  obtain rfl := Option.some.inj h
                  exact hx _ _ _ hZ (lv_sub hl [0, 1, 2, 3] rfl)
                · replace h := (if_neg c105_1).symm.trans h
                  refine lv_aload_n hx0 hb d_Md_findNearest_113 rfl (lv_at hl 2 rfl) ?_
                  refine lv_iload_n hx0 hb d_Md_findNearest_114 rfl (lv_at hl 0 rfl) ?_
                  obtain ⟨q105_2, hc105_6, h⟩ := bnd_some h
                  refine k_Md_Md_next [.int x3_105] hx0 hb hml hts hown (c_Md_next l G x3_105 M_105 q105_2 hc105_6) hZ rfl rfl ⟨Nat.le_of_ble_eq_true rfl, Nat.le_of_ble_eq_true rfl⟩ hl.1 rfl (Nat.le_of_ble_eq_true rfl) d_Md_findNearest_115 (fun H locs hZ => ?_)
                  refine lv_aload_n hx0 hb d_Md_findNearest_118 rfl (lv_at hl 2 rfl) ?_
                  refine fg_Md_rows hx0 hb hts hown hZ d_Md_findNearest_119 ?_
                  refine lv_icmp_le (tgt := 138) hx0 hb d_Md_findNearest_122 (by decide) (fun c105_3 => ?_) (fun c105_3 => ?_)
                  · replace h := (if_pos c105_3).symm.trans h
                    obtain rfl := Option.some.inj h
                    exact hx _ _ _ hZ (lv_sub hl [0, 1, 2, 3] rfl)
                  · replace h := (if_neg c105_3).symm.trans h
                    refine lv_aload_n hx0 hb d_Md_findNearest_125 rfl (lv_at hl 2 rfl) ?_
                    refine fg_Md_from hx0 hb hts hown hZ d_Md_findNearest_126 ?_
                    refine lv_iload_n hx0 hb d_Md_findNearest_129 rfl (lv_at hl 0 rfl) ?_
                    refine lv_iconst (v := (0 : Int32)) hx0 hb d_Md_findNearest_130 (by decide) ?_
                    obtain ⟨hi105_4, h⟩ := chk_some h
                    refine z_iastoreT (k := 16) hx0 hb hZ hi105_4 d_Md_findNearest_131 (fun H locs hZ => ?_)
                    obtain ⟨m105_5, em105_5, h⟩ := nm_some h
                    rw [em105_5] at hZ
                    refine lv_iinc (v := (x3_105 + (1 : Int32))) (lv' := [(3, .int (x3_105 + (1 : Int32))), (2, .int (1 : Int32)), (0, .ref (G.1 0)), (1, .int a1)]) hx0 hb d_Md_findNearest_132 hl (k := 0) rfl rfl (by decide) rfl (fun ls hl => ?_)
                    refine lv_goto (tgt := 105) hx0 hb d_Md_findNearest_135 (by decide) ?_
                    obtain rfl := Option.some.inj h
                    exact hx _ _ _ hZ (lv_sub hl [0, 1, 2, 3] rfl)
              · replace hZ : ZZT G s q27_13.2 H locs := hZ
                replace hl : lv_has ls 5 [(3, .int q27_13.1), (2, .int (1 : Int32)), (0, .ref (G.1 0)), (1, .int a1)] := hl
                refine lv_iload_n hx0 hb d_Md_findNearest_138 rfl (lv_at hl 0 rfl) ?_
                refine lv_aload_n hx0 hb d_Md_findNearest_139 rfl (lv_at hl 2 rfl) ?_
                refine fg_Md_columns hx0 hb hts hown hZ d_Md_findNearest_140 ?_
                refine lv_icmp_ge (tgt := 27) hx0 hb d_Md_findNearest_143 (by decide) (fun c27_14 => ?_) (fun c27_14 => ?_)
                · replace h := (if_pos c27_14).symm.trans h
                  obtain rfl := Option.some.inj h
                  exact hx _ _ _ hZ (lv_sub hl [0, 1, 2, 3] rfl)
                · replace h := (if_neg c27_14).symm.trans h
                  refine lv_aload_n hx0 hb d_Md_findNearest_146 rfl (lv_at hl 2 rfl) ?_
                  refine fg_Md_from hx0 hb hts hown hZ d_Md_findNearest_147 ?_
                  refine lv_iload_n hx0 hb d_Md_findNearest_150 rfl (lv_at hl 0 rfl) ?_
                  refine lv_aload_n hx0 hb d_Md_findNearest_151 rfl (lv_at hl 2 rfl) ?_
                  refine lv_iload_n hx0 hb d_Md_findNearest_152 rfl (lv_at hl 0 rfl) ?_
                  obtain ⟨q27_15, hc27_18, h⟩ := bnd_some h
                  refine k_Md_Md_next [.int q27_13.1] hx0 hb hml hts hown (c_Md_next l G q27_13.1 q27_13.2 q27_15 hc27_18) hZ rfl rfl ⟨Nat.le_of_ble_eq_true rfl, Nat.le_of_ble_eq_true rfl⟩ hl.1 rfl (Nat.le_of_ble_eq_true rfl) d_Md_findNearest_153 (fun H locs hZ => ?_)
                  obtain ⟨hi27_16, h⟩ := chk_some h
                  refine z_iastoreT (k := 16) hx0 hb hZ hi27_16 d_Md_findNearest_156 (fun H locs hZ => ?_)
                  obtain ⟨m27_17, em27_17, h⟩ := nm_some h
                  rw [em27_17] at hZ
                  refine lv_goto (tgt := 27) hx0 hb d_Md_findNearest_157 (by decide) ?_
                  obtain rfl := Option.some.inj h
                  exact hx _ _ _ hZ (lv_sub hl [0, 1, 2, 3] rfl)
            · replace h := (if_pos c27_11).symm.trans h
              refine lv_iconst (v := (1 : Int32)) hx0 hb d_Md_findNearest_93 (by decide) ?_
              refine lv_goto (tgt := 98) hx0 hb d_Md_findNearest_94 (by decide) ?_
              obtain ⟨q27_20, hc27_27, h⟩ := bnd_some h
              refine k_Md_Md_hold [.int (1 : Int32)] hx0 hb hml hts hown (c_Md_hold l G (1 : Int32) q27_2.2 q27_20 hc27_27) hZ rfl rfl ⟨Nat.le_of_ble_eq_true rfl, Nat.le_of_ble_eq_true rfl⟩ hl.1 rfl (Nat.le_of_ble_eq_true rfl) d_Md_findNearest_98 (fun H locs hZ => ?_)
              refine lv_iconst (v := (1 : Int32)) hx0 hb d_Md_findNearest_101 (by decide) ?_
              refine lv_istore_n (lv' := [(2, .int (1 : Int32)), (0, .ref (G.1 0)), (1, .int a1)]) hx0 hb d_Md_findNearest_102 rfl hl (by decide) rfl (fun ls hl => ?_)
              refine lv_iconst (v := (0 : Int32)) hx0 hb d_Md_findNearest_103 (by decide) ?_
              refine lv_istore_n (lv' := [(3, .int (0 : Int32)), (2, .int (1 : Int32)), (0, .ref (G.1 0)), (1, .int a1)]) hx0 hb d_Md_findNearest_104 rfl hl (by decide) rfl (fun ls hl => ?_)
              obtain ⟨q27_21, hq9, h⟩ := bnd_some h
              refine W_itr (At := fun (s0 : Int32 × Mem) => ∀ (H : Heap) (locs : List Loc) (ls : Array Slot), ZZT G s s0.2 H locs → lv_has ls 5 [(3, .int s0.1), (2, .int (1 : Int32)), (0, .ref (G.1 0)), (1, .int a1)] → W p l e rm_Md_findNearest s m args below meth c H locs 0 0 Q (F0 m 105 ls [])) (Ex := fun (q0 : Int32 × Mem) => ∀ (H : Heap) (locs : List Loc) (ls : Array Slot), ZZT G s q0.2 H locs → lv_has ls 5 [(3, .int q0.1), (2, .int (1 : Int32)), (0, .ref (G.1 0)), (1, .int a1)] → W p l e rm_Md_findNearest s m args below meth c H locs 0 0 Q (F0 m 138 ls [])) (fun s0 x h hx => ?_) _ _ q27_21 hq9 (fun H locs ls hZ hl => ?_) _ _ _ hZ (lv_sub hl [0, 1, 2, 3] rfl)
              · obtain ⟨x3_105, M_105⟩ := s0
                replace h : p_Md_findNearest_L105 x3_105 M_105 = some x := h
                unfold p_Md_findNearest_L105 at h
                intro H locs ls hZ hl
                replace hZ : ZZT G s M_105 H locs := hZ
                replace hl : lv_has ls 5 [(3, .int x3_105), (2, .int (1 : Int32)), (0, .ref (G.1 0)), (1, .int a1)] := hl
                refine lv_iload_n hx0 hb d_Md_findNearest_105 rfl (lv_at hl 0 rfl) ?_
                refine lv_aload_n hx0 hb d_Md_findNearest_106 rfl (lv_at hl 2 rfl) ?_
                refine fg_Md_columns hx0 hb hts hown hZ d_Md_findNearest_107 ?_
                refine lv_icmp_ge (tgt := 138) hx0 hb d_Md_findNearest_110 (by decide) (fun c105_1 => ?_) (fun c105_1 => ?_)
                · replace h := (if_pos c105_1).symm.trans h
                  obtain rfl := Option.some.inj h
                  exact hx _ _ _ hZ (lv_sub hl [0, 1, 2, 3] rfl)
                · replace h := (if_neg c105_1).symm.trans h
                  refine lv_aload_n hx0 hb d_Md_findNearest_113 rfl (lv_at hl 2 rfl) ?_
                  refine lv_iload_n hx0 hb d_Md_findNearest_114 rfl (lv_at hl 0 rfl) ?_
                  obtain ⟨q105_2, hc105_6, h⟩ := bnd_some h
                  refine k_Md_Md_next [.int x3_105] hx0 hb hml hts hown (c_Md_next l G x3_105 M_105 q105_2 hc105_6) hZ rfl rfl ⟨Nat.le_of_ble_eq_true rfl, Nat.le_of_ble_eq_true rfl⟩ hl.1 rfl (Nat.le_of_ble_eq_true rfl) d_Md_findNearest_115 (fun H locs hZ => ?_)
                  refine lv_aload_n hx0 hb d_Md_findNearest_118 rfl (lv_at hl 2 rfl) ?_
                  refine fg_Md_rows hx0 hb hts hown hZ d_Md_findNearest_119 ?_
                  refine lv_icmp_le (tgt := 138) hx0 hb d_Md_findNearest_122 (by decide) (fun c105_3 => ?_) (fun c105_3 => ?_)
                  · replace h := (if_pos c105_3).symm.trans h
                    obtain rfl := Option.some.inj h
                    exact hx _ _ _ hZ (lv_sub hl [0, 1, 2, 3] rfl)
                  · replace h := (if_neg c105_3).symm.trans h
                    refine lv_aload_n hx0 hb d_Md_findNearest_125 rfl (lv_at hl 2 rfl) ?_
                    refine fg_Md_from hx0 hb hts hown hZ d_Md_findNearest_126 ?_
                    refine lv_iload_n hx0 hb d_Md_findNearest_129 rfl (lv_at hl 0 rfl) ?_
                    refine lv_iconst (v := (0 : Int32)) hx0 hb d_Md_findNearest_130 (by decide) ?_
                    obtain ⟨hi105_4, h⟩ := chk_some h
                    refine z_iastoreT (k := 16) hx0 hb hZ hi105_4 d_Md_findNearest_131 (fun H locs hZ => ?_)
                    obtain ⟨m105_5, em105_5, h⟩ := nm_some h
                    rw [em105_5] at hZ
                    refine lv_iinc (v := (x3_105 + (1 : Int32))) (lv' := [(3, .int (x3_105 + (1 : Int32))), (2, .int (1 : Int32)), (0, .ref (G.1 0)), (1, .int a1)]) hx0 hb d_Md_findNearest_132 hl (k := 0) rfl rfl (by decide) rfl (fun ls hl => ?_)
                    refine lv_goto (tgt := 105) hx0 hb d_Md_findNearest_135 (by decide) ?_
                    obtain rfl := Option.some.inj h
                    exact hx _ _ _ hZ (lv_sub hl [0, 1, 2, 3] rfl)
              · replace hZ : ZZT G s q27_21.2 H locs := hZ
                replace hl : lv_has ls 5 [(3, .int q27_21.1), (2, .int (1 : Int32)), (0, .ref (G.1 0)), (1, .int a1)] := hl
                refine lv_iload_n hx0 hb d_Md_findNearest_138 rfl (lv_at hl 0 rfl) ?_
                refine lv_aload_n hx0 hb d_Md_findNearest_139 rfl (lv_at hl 2 rfl) ?_
                refine fg_Md_columns hx0 hb hts hown hZ d_Md_findNearest_140 ?_
                refine lv_icmp_ge (tgt := 27) hx0 hb d_Md_findNearest_143 (by decide) (fun c27_22 => ?_) (fun c27_22 => ?_)
                · replace h := (if_pos c27_22).symm.trans h
                  obtain rfl := Option.some.inj h
                  exact hx _ _ _ hZ (lv_sub hl [0, 1, 2, 3] rfl)
                · replace h := (if_neg c27_22).symm.trans h
                  refine lv_aload_n hx0 hb d_Md_findNearest_146 rfl (lv_at hl 2 rfl) ?_
                  refine fg_Md_from hx0 hb hts hown hZ d_Md_findNearest_147 ?_
                  refine lv_iload_n hx0 hb d_Md_findNearest_150 rfl (lv_at hl 0 rfl) ?_
                  refine lv_aload_n hx0 hb d_Md_findNearest_151 rfl (lv_at hl 2 rfl) ?_
                  refine lv_iload_n hx0 hb d_Md_findNearest_152 rfl (lv_at hl 0 rfl) ?_
                  obtain ⟨q27_23, hc27_26, h⟩ := bnd_some h
                  refine k_Md_Md_next [.int q27_21.1] hx0 hb hml hts hown (c_Md_next l G q27_21.1 q27_21.2 q27_23 hc27_26) hZ rfl rfl ⟨Nat.le_of_ble_eq_true rfl, Nat.le_of_ble_eq_true rfl⟩ hl.1 rfl (Nat.le_of_ble_eq_true rfl) d_Md_findNearest_153 (fun H locs hZ => ?_)
                  obtain ⟨hi27_24, h⟩ := chk_some h
                  refine z_iastoreT (k := 16) hx0 hb hZ hi27_24 d_Md_findNearest_156 (fun H locs hZ => ?_)
                  obtain ⟨m27_25, em27_25, h⟩ := nm_some h
                  rw [em27_25] at hZ
                  refine lv_goto (tgt := 27) hx0 hb d_Md_findNearest_157 (by decide) ?_
                  obtain rfl := Option.some.inj h
                  exact hx _ _ _ hZ (lv_sub hl [0, 1, 2, 3] rfl)
    · replace hZ : ZZT G s q2.2.2 H locs := hZ
      replace hl : lv_has ls 5 [(2, .int q2.1)] := hl
      refine lv_iload_n hx0 hb d_Md_findNearest_160 rfl (lv_at hl 0 rfl) ?_
      obtain ⟨hz3, h⟩ := chk_some h
      obtain rfl := Option.some.inj h
      exact z_zretT hx0 hb hr hZ hlocks hQ (zbl_ok hz3) d_Md_findNearest_161
abbrev rm_Md_nearest : Room := ({ frames := 2, cells := 0, slots := 0, locals := 50 } : Room)
set_option maxHeartbeats 4000000 in
set_option maxRecDepth 100000 in
theorem c_Md_nearest (l : Launch) (G : zG) (a1 : Int32) (M : Mem) (r : Int32 × Mem) (h : p_Md_nearest a1 M = some r) : MetZT l G y_Md_nearest (Cond.code y_Md_nearest b_Md_nearest 2 (some .int) :: zws) rm_Md_nearest [.ref (G.1 0), .int a1] M (some (.int r.1)) r.2 := by
  unfold p_Md_nearest at h
  refine z_ofWT (lv := [(0, .ref (G.1 0)), (1, .int a1)]) (by decide) (Nat.le_of_ble_eq_true rfl) rfl (fun p e R s m args below meth c Q ls F hl hZ => ?_)
  obtain ⟨hx0, hb, hml, hr, hts, hown, hlocks, rfl, hQ⟩ := F
  refine lv_aload_n hx0 hb d_Md_nearest_0 rfl (lv_at hl 0 rfl) ?_
  refine lv_iconst (v := (0 : Int32)) hx0 hb d_Md_nearest_1 (by decide) ?_
  refine fp_Md_code hx0 hb hts hown hZ d_Md_nearest_2 (fun H locs hZ => ?_)
  obtain ⟨m1, em1, h⟩ := nm_some h
  rw [em1] at hZ
  refine lv_aload_n hx0 hb d_Md_nearest_5 rfl (lv_at hl 0 rfl) ?_
  refine lv_iload_n hx0 hb d_Md_nearest_6 rfl (lv_at hl 1 rfl) ?_
  obtain ⟨q2, hc4, h⟩ := bnd_some h
  refine k_Md_Md_findNearest [.int a1] hx0 hb hml hts hown (c_Md_findNearest l G a1 m1 q2 hc4) hZ rfl rfl ⟨Nat.le_of_ble_eq_true rfl, Nat.le_of_ble_eq_true rfl⟩ hl.1 rfl (Nat.le_of_ble_eq_true rfl) d_Md_nearest_7 (fun H locs hZ => ?_)
  refine lv_if_eq (tgt := 20) hx0 hb d_Md_nearest_10 (by decide) (fun c3 => ?_) (fun c3 => ?_)
  · replace h := (if_pos c3).symm.trans h
    refine lv_bipush (v := (-3 : Int32)) hx0 hb d_Md_nearest_20 (by decide) ?_
    obtain rfl := Option.some.inj h
    exact z_iretT hx0 hb hr hZ hlocks hQ d_Md_nearest_22
  · replace h := (if_neg c3).symm.trans h
    refine lv_aload_n hx0 hb d_Md_nearest_13 rfl (lv_at hl 0 rfl) ?_
    refine fg_Md_bestMany hx0 hb hts hown hZ d_Md_nearest_14 ?_
    refine lv_goto (tgt := 22) hx0 hb d_Md_nearest_17 (by decide) ?_
    obtain rfl := Option.some.inj h
    exact z_iretT hx0 hb hr hZ hlocks hQ d_Md_nearest_22
abbrev rm_Md_nearestAt : Room := ({ frames := 2, cells := 0, slots := 0, locals := 50 } : Room)
set_option maxHeartbeats 4000000 in
set_option maxRecDepth 100000 in
theorem c_Md_nearestAt (l : Launch) (G : zG) (a1 : Int32) (a2 : Int32) (M : Mem) (r : Int64 × Mem) (h : p_Md_nearestAt a1 a2 M = some r) : MetZT l G y_Md_nearestAt (Cond.code y_Md_nearestAt b_Md_nearestAt 3 (some .long) :: zws) rm_Md_nearestAt [.ref (G.1 0), .int a1, .int a2] M (some (.long r.1)) r.2 := by
  unfold p_Md_nearestAt at h
  refine z_ofWT (lv := [(0, .ref (G.1 0)), (1, .int a1), (2, .int a2)]) (by decide) (Nat.le_of_ble_eq_true rfl) rfl (fun p e R s m args below meth c Q ls F hl hZ => ?_)
  obtain ⟨hx0, hb, hml, hr, hts, hown, hlocks, rfl, hQ⟩ := F
  refine lv_aload_n hx0 hb d_Md_nearestAt_0 rfl (lv_at hl 0 rfl) ?_
  refine lv_iconst (v := (0 : Int32)) hx0 hb d_Md_nearestAt_1 (by decide) ?_
  refine fp_Md_code hx0 hb hts hown hZ d_Md_nearestAt_2 (fun H locs hZ => ?_)
  obtain ⟨m1, em1, h⟩ := nm_some h
  rw [em1] at hZ
  refine lv_aload_n hx0 hb d_Md_nearestAt_5 rfl (lv_at hl 0 rfl) ?_
  refine lv_iload_n hx0 hb d_Md_nearestAt_6 rfl (lv_at hl 2 rfl) ?_
  obtain ⟨q2, hc8, h⟩ := bnd_some h
  refine k_Md_Md_isColumn [.int a2] hx0 hb hml hts hown (c_Md_isColumn l G a2 m1 q2 hc8) hZ rfl rfl ⟨Nat.le_of_ble_eq_true rfl, Nat.le_of_ble_eq_true rfl⟩ hl.1 rfl (Nat.le_of_ble_eq_true rfl) d_Md_nearestAt_7 (fun H locs hZ => ?_)
  refine lv_if_eq (tgt := 31) hx0 hb d_Md_nearestAt_10 (by decide) (fun c3 => ?_) (fun c3 => ?_)
  · replace h := (if_pos c3).symm.trans h
    refine lv_ldc2 (v := (-1000000000000 : Int64)) hx0 hb hown (hts _ wk_Md_91) d_Md_nearestAt_31 ?_
    obtain rfl := Option.some.inj h
    exact z_lretT hx0 hb hr hZ hlocks hQ d_Md_nearestAt_34
  · replace h := (if_neg c3).symm.trans h
    refine lv_aload_n hx0 hb d_Md_nearestAt_13 rfl (lv_at hl 0 rfl) ?_
    refine lv_iload_n hx0 hb d_Md_nearestAt_14 rfl (lv_at hl 1 rfl) ?_
    obtain ⟨q4, hc7, h⟩ := bnd_some h
    refine k_Md_Md_findNearest [.int a1] hx0 hb hml hts hown (c_Md_findNearest l G a1 m1 q4 hc7) hZ rfl rfl ⟨Nat.le_of_ble_eq_true rfl, Nat.le_of_ble_eq_true rfl⟩ hl.1 rfl (Nat.le_of_ble_eq_true rfl) d_Md_nearestAt_15 (fun H locs hZ => ?_)
    refine lv_if_eq (tgt := 31) hx0 hb d_Md_nearestAt_18 (by decide) (fun c5 => ?_) (fun c5 => ?_)
    · replace h := (if_pos c5).symm.trans h
      refine lv_ldc2 (v := (-1000000000000 : Int64)) hx0 hb hown (hts _ wk_Md_91) d_Md_nearestAt_31 ?_
      obtain rfl := Option.some.inj h
      exact z_lretT hx0 hb hr hZ hlocks hQ d_Md_nearestAt_34
    · replace h := (if_neg c5).symm.trans h
      refine lv_aload_n hx0 hb d_Md_nearestAt_21 rfl (lv_at hl 0 rfl) ?_
      refine fg_Md_best hx0 hb hts hown hZ d_Md_nearestAt_22 ?_
      refine lv_iload_n hx0 hb d_Md_nearestAt_25 rfl (lv_at hl 2 rfl) ?_
      obtain ⟨hi6, h⟩ := chk_some h
      refine z_ialoadT (k := 17) hx0 hb hZ hi6 d_Md_nearestAt_26 ?_
      refine lv_i2l (v := Int32.toInt64 (q4.2.1 17 (Int32.toNatClampNeg a2))) hx0 hb d_Md_nearestAt_27 rfl ?_
      refine lv_goto (tgt := 34) hx0 hb d_Md_nearestAt_28 (by decide) ?_
      obtain rfl := Option.some.inj h
      exact z_lretT hx0 hb hr hZ hlocks hQ d_Md_nearestAt_34
