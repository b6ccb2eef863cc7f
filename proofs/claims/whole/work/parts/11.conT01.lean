abbrev rm_Md_throwsNow : Room := ({ frames := 0, cells := 0, slots := 0, locals := 0 } : Room)
set_option maxHeartbeats 4000000 in
set_option maxRecDepth 100000 in
theorem c_Md_throwsNow (l : Launch) (G : zG)  (M : Mem) (r : Int32 × Mem) (h : p_Md_throwsNow  M = some r) : MetZT l G y_Md_throwsNow (Cond.code y_Md_throwsNow b_Md_throwsNow 1 (some .boolean) :: zws) rm_Md_throwsNow [.ref (G.1 0)] M (some (.int r.1)) r.2 := by
  unfold p_Md_throwsNow at h
  refine z_ofWT (lv := [(0, .ref (G.1 0))]) (by decide) (Nat.le_of_ble_eq_true rfl) rfl (fun p e R s m args below meth c Q ls F hl hZ => ?_)
  obtain ⟨hx0, hb, hml, hr, hts, hown, hlocks, rfl, hQ⟩ := F
  refine lv_aload_n hx0 hb d_Md_throwsNow_0 rfl (lv_at hl 0 rfl) ?_
  refine lv_aload_n hx0 hb d_Md_throwsNow_1 rfl (lv_at hl 0 rfl) ?_
  refine fg_Md_rows hx0 hb hts hown hZ d_Md_throwsNow_2 ?_
  refine lv_if_ne (tgt := 12) hx0 hb d_Md_throwsNow_5 (by decide) (fun c1 => ?_) (fun c1 => ?_)
  · replace h := (if_neg c1).symm.trans h
    refine lv_iconst (v := (0 : Int32)) hx0 hb d_Md_throwsNow_12 (by decide) ?_
    refine fp_Md_code hx0 hb hts hown hZ d_Md_throwsNow_13 (fun H locs hZ => ?_)
    obtain ⟨m2, em2, h⟩ := nm_some h
    rw [em2] at hZ
    refine lv_aload_n hx0 hb d_Md_throwsNow_16 rfl (lv_at hl 0 rfl) ?_
    refine fg_Md_rows hx0 hb hts hown hZ d_Md_throwsNow_17 ?_
    refine lv_if_ne (tgt := 27) hx0 hb d_Md_throwsNow_20 (by decide) (fun c3 => ?_) (fun c3 => ?_)
    · replace h := (if_neg c3).symm.trans h
      refine lv_iconst (v := (0 : Int32)) hx0 hb d_Md_throwsNow_27 (by decide) ?_
      obtain rfl := Option.some.inj h
      exact z_zretT hx0 hb hr hZ hlocks hQ rfl d_Md_throwsNow_28
    · replace h := (if_pos c3).symm.trans h
      refine lv_iconst (v := (1 : Int32)) hx0 hb d_Md_throwsNow_23 (by decide) ?_
      refine lv_goto (tgt := 28) hx0 hb d_Md_throwsNow_24 (by decide) ?_
      obtain rfl := Option.some.inj h
      exact z_zretT hx0 hb hr hZ hlocks hQ rfl d_Md_throwsNow_28
  · replace h := (if_pos c1).symm.trans h
    refine lv_iconst (v := (1 : Int32)) hx0 hb d_Md_throwsNow_8 (by decide) ?_
    refine lv_goto (tgt := 13) hx0 hb d_Md_throwsNow_9 (by decide) ?_
    refine fp_Md_code hx0 hb hts hown hZ d_Md_throwsNow_13 (fun H locs hZ => ?_)
    obtain ⟨m4, em4, h⟩ := nm_some h
    rw [em4] at hZ
    refine lv_aload_n hx0 hb d_Md_throwsNow_16 rfl (lv_at hl 0 rfl) ?_
    refine fg_Md_rows hx0 hb hts hown hZ d_Md_throwsNow_17 ?_
    refine lv_if_ne (tgt := 27) hx0 hb d_Md_throwsNow_20 (by decide) (fun c5 => ?_) (fun c5 => ?_)
    · replace h := (if_neg c5).symm.trans h
      refine lv_iconst (v := (0 : Int32)) hx0 hb d_Md_throwsNow_27 (by decide) ?_
      obtain rfl := Option.some.inj h
      exact z_zretT hx0 hb hr hZ hlocks hQ rfl d_Md_throwsNow_28
    · replace h := (if_pos c5).symm.trans h
      refine lv_iconst (v := (1 : Int32)) hx0 hb d_Md_throwsNow_23 (by decide) ?_
      refine lv_goto (tgt := 28) hx0 hb d_Md_throwsNow_24 (by decide) ?_
      obtain rfl := Option.some.inj h
      exact z_zretT hx0 hb hr hZ hlocks hQ rfl d_Md_throwsNow_28
abbrev rm_Md_sumAll : Room := ({ frames := 1, cells := 0, slots := 0, locals := 24 } : Room)
set_option maxHeartbeats 4000000 in
set_option maxRecDepth 100000 in
theorem c_Md_sumAll (l : Launch) (G : zG)  (M : Mem) (r : Mem) (h : p_Md_sumAll  M = some r) : MetZT l G y_Md_sumAll (Cond.code y_Md_sumAll b_Md_sumAll 4 none :: zws) rm_Md_sumAll [.ref (G.1 0)] M none r := by
  unfold p_Md_sumAll at h
  refine z_ofWT (lv := [(0, .ref (G.1 0))]) (by decide) (Nat.le_of_ble_eq_true rfl) rfl (fun p e R s m args below meth c Q ls F hl hZ => ?_)
  obtain ⟨hx0, hb, hml, hr, hts, hown, hlocks, rfl, hQ⟩ := F
  refine lv_iconst (v := (0 : Int32)) hx0 hb d_Md_sumAll_0 (by decide) ?_
  refine lv_istore_n (lv' := [(1, .int (0 : Int32)), (0, .ref (G.1 0))]) hx0 hb d_Md_sumAll_1 rfl hl (by decide) rfl (fun ls hl => ?_)
  obtain ⟨q1, hq2, h⟩ := bnd_some h
  refine W_itr (At := fun (s0 : Int32 × Mem) => ∀ (H : Heap) (locs : List Loc) (ls : Array Slot), ZZT G s s0.2 H locs → lv_has ls 4 [(1, .int s0.1), (0, .ref (G.1 0))] → W p l e rm_Md_sumAll s m args below meth c H locs 0 0 Q (F0 m 2 ls [])) (Ex := fun (q0 : Int32 × Mem) => ∀ (H : Heap) (locs : List Loc) (ls : Array Slot), ZZT G s q0.2 H locs → lv_has ls 4 [] → W p l e rm_Md_sumAll s m args below meth c H locs 0 0 Q (F0 m 100 ls [])) (fun s0 x h hx => ?_) _ _ q1 hq2 (fun H locs ls hZ hl => ?_) _ _ _ hZ (lv_sub hl [0, 1] rfl)
  · obtain ⟨x1_2, M_2⟩ := s0
    replace h : p_Md_sumAll_L2 x1_2 M_2 = some x := h
    unfold p_Md_sumAll_L2 at h
    intro H locs ls hZ hl
    replace hZ : ZZT G s M_2 H locs := hZ
    replace hl : lv_has ls 4 [(1, .int x1_2), (0, .ref (G.1 0))] := hl
    refine lv_iload_n hx0 hb d_Md_sumAll_2 rfl (lv_at hl 0 rfl) ?_
    refine lv_iconst (v := (1 : Int32)) hx0 hb d_Md_sumAll_3 (by decide) ?_
    refine lv_aload_n hx0 hb d_Md_sumAll_4 rfl (lv_at hl 1 rfl) ?_
    refine fg_Md_columns hx0 hb hts hown hZ d_Md_sumAll_5 ?_
    refine lv_ishl hx0 hb d_Md_sumAll_8 ?_
    refine lv_icmp_ge (tgt := 100) hx0 hb d_Md_sumAll_9 (by decide) (fun c2_1 => ?_) (fun c2_1 => ?_)
    · replace h := (if_pos c2_1).symm.trans h
      obtain rfl := Option.some.inj h
      exact hx _ _ _ hZ (lv_sub hl [] rfl)
    · replace h := (if_neg c2_1).symm.trans h
      refine lv_aload_n hx0 hb d_Md_sumAll_12 rfl (lv_at hl 1 rfl) ?_
      refine fg_Md_sums hx0 hb hts hown hZ d_Md_sumAll_13 ?_
      refine lv_iload_n hx0 hb d_Md_sumAll_16 rfl (lv_at hl 0 rfl) ?_
      refine lv_lconst (v := (0 : Int64)) hx0 hb d_Md_sumAll_17 (by decide) ?_
      obtain ⟨hi2_2, h⟩ := chk_some h
      refine z_lastoreT (k := 12) hx0 hb hZ hi2_2 d_Md_sumAll_18 (fun H locs hZ => ?_)
      obtain ⟨m2_3, em2_3, h⟩ := nm_some h
      rw [em2_3] at hZ
      refine lv_iconst (v := (1 : Int32)) hx0 hb d_Md_sumAll_19 (by decide) ?_
      refine lv_istore_n (lv' := [(2, .int (1 : Int32)), (1, .int x1_2), (0, .ref (G.1 0))]) hx0 hb d_Md_sumAll_20 rfl hl (by decide) rfl (fun ls hl => ?_)
      obtain ⟨q2_4, hq3, h⟩ := bnd_some h
      refine W_itr (At := fun (s0 : Int32 × Mem) => ∀ (H : Heap) (locs : List Loc) (ls : Array Slot), ZZT G s s0.2 H locs → lv_has ls 4 [(2, .int s0.1), (1, .int x1_2), (0, .ref (G.1 0))] → W p l e rm_Md_sumAll s m args below meth c H locs 0 0 Q (F0 m 21 ls [])) (Ex := fun (q0 : Int32 × Mem) => ∀ (H : Heap) (locs : List Loc) (ls : Array Slot), ZZT G s q0.2 H locs → lv_has ls 4 [(1, .int x1_2), (0, .ref (G.1 0))] → W p l e rm_Md_sumAll s m args below meth c H locs 0 0 Q (F0 m 94 ls [])) (fun s0 x h hx => ?_) _ _ q2_4 hq3 (fun H locs ls hZ hl => ?_) _ _ _ hZ (lv_sub hl [0, 1, 2] rfl)
      · obtain ⟨x2_21, M_21⟩ := s0
        replace h : p_Md_sumAll_L21 x1_2 x2_21 M_21 = some x := h
        unfold p_Md_sumAll_L21 at h
        intro H locs ls hZ hl
        replace hZ : ZZT G s M_21 H locs := hZ
        replace hl : lv_has ls 4 [(2, .int x2_21), (1, .int x1_2), (0, .ref (G.1 0))] := hl
        refine lv_iload_n hx0 hb d_Md_sumAll_21 rfl (lv_at hl 0 rfl) ?_
        refine lv_aload_n hx0 hb d_Md_sumAll_22 rfl (lv_at hl 2 rfl) ?_
        refine fg_Md_rows hx0 hb hts hown hZ d_Md_sumAll_23 ?_
        refine lv_icmp_gt (tgt := 94) hx0 hb d_Md_sumAll_26 (by decide) (fun c21_1 => ?_) (fun c21_1 => ?_)
        · replace h := (if_pos c21_1).symm.trans h
          obtain rfl := Option.some.inj h
          exact hx _ _ _ hZ (lv_sub hl [1, 2] rfl)
        · replace h := (if_neg c21_1).symm.trans h
          refine lv_iconst (v := (0 : Int32)) hx0 hb d_Md_sumAll_29 (by decide) ?_
          refine lv_istore_n (lv' := [(3, .int (0 : Int32)), (2, .int x2_21), (1, .int x1_2), (0, .ref (G.1 0))]) hx0 hb d_Md_sumAll_30 rfl hl (by decide) rfl (fun ls hl => ?_)
          obtain ⟨q21_2, hq4, h⟩ := bnd_some h
          refine W_itr (At := fun (s0 : Int32 × Mem) => ∀ (H : Heap) (locs : List Loc) (ls : Array Slot), ZZT G s s0.2 H locs → lv_has ls 4 [(3, .int s0.1), (2, .int x2_21), (1, .int x1_2), (0, .ref (G.1 0))] → W p l e rm_Md_sumAll s m args below meth c H locs 0 0 Q (F0 m 31 ls [])) (Ex := fun (q0 : Int32 × Mem) => ∀ (H : Heap) (locs : List Loc) (ls : Array Slot), ZZT G s q0.2 H locs → lv_has ls 4 [(2, .int x2_21), (1, .int x1_2), (0, .ref (G.1 0))] → W p l e rm_Md_sumAll s m args below meth c H locs 0 0 Q (F0 m 75 ls [])) (fun s0 x h hx => ?_) _ _ q21_2 hq4 (fun H locs ls hZ hl => ?_) _ _ _ hZ (lv_sub hl [0, 1, 2, 3] rfl)
          · obtain ⟨x3_31, M_31⟩ := s0
            replace h : p_Md_sumAll_L31 x2_21 x1_2 x3_31 M_31 = some x := h
            unfold p_Md_sumAll_L31 at h
            intro H locs ls hZ hl
            replace hZ : ZZT G s M_31 H locs := hZ
            replace hl : lv_has ls 4 [(3, .int x3_31), (2, .int x2_21), (1, .int x1_2), (0, .ref (G.1 0))] := hl
            refine lv_iload_n hx0 hb d_Md_sumAll_31 rfl (lv_at hl 0 rfl) ?_
            refine lv_aload_n hx0 hb d_Md_sumAll_32 rfl (lv_at hl 3 rfl) ?_
            refine fg_Md_columns hx0 hb hts hown hZ d_Md_sumAll_33 ?_
            refine lv_icmp_ge (tgt := 75) hx0 hb d_Md_sumAll_36 (by decide) (fun c31_1 => ?_) (fun c31_1 => ?_)
            · replace h := (if_pos c31_1).symm.trans h
              obtain rfl := Option.some.inj h
              exact hx _ _ _ hZ (lv_sub hl [1, 2, 3] rfl)
            · replace h := (if_neg c31_1).symm.trans h
              refine lv_aload_n hx0 hb d_Md_sumAll_39 rfl (lv_at hl 3 rfl) ?_
              refine fg_Md_now hx0 hb hts hown hZ d_Md_sumAll_40 ?_
              refine lv_iload_n hx0 hb d_Md_sumAll_43 rfl (lv_at hl 0 rfl) ?_
              refine lv_aload_n hx0 hb d_Md_sumAll_44 rfl (lv_at hl 3 rfl) ?_
              refine fg_Md_items hx0 hb hts hown hZ d_Md_sumAll_45 ?_
              refine lv_bipush (v := (6 : Int32)) hx0 hb d_Md_sumAll_48 (by decide) ?_
              refine lv_iload_n hx0 hb d_Md_sumAll_50 rfl (lv_at hl 2 rfl) ?_
              refine lv_iload_n hx0 hb d_Md_sumAll_51 rfl (lv_at hl 0 rfl) ?_
              refine lv_ishr hx0 hb d_Md_sumAll_52 ?_
              refine lv_iconst (v := (1 : Int32)) hx0 hb d_Md_sumAll_53 (by decide) ?_
              refine lv_iand hx0 hb d_Md_sumAll_54 ?_
              refine lv_iconst (v := (1 : Int32)) hx0 hb d_Md_sumAll_55 (by decide) ?_
              refine lv_icmp_ne (tgt := 63) hx0 hb d_Md_sumAll_56 (by decide) (fun c31_2 => ?_) (fun c31_2 => ?_)
              · replace h := (if_neg c31_2).symm.trans h
                refine lv_iload_n hx0 hb d_Md_sumAll_63 rfl (lv_at hl 1 rfl) ?_
                refine lv_imul hx0 hb d_Md_sumAll_64 ?_
                refine lv_iload_n hx0 hb d_Md_sumAll_65 rfl (lv_at hl 0 rfl) ?_
                refine lv_iadd hx0 hb d_Md_sumAll_66 ?_
                obtain ⟨hi31_3, h⟩ := chk_some h
                refine z_ialoadT (k := 10) hx0 hb hZ hi31_3 d_Md_sumAll_67 ?_
                obtain ⟨hi31_4, h⟩ := chk_some h
                refine z_iastoreT (k := 11) hx0 hb hZ hi31_4 d_Md_sumAll_68 (fun H locs hZ => ?_)
                obtain ⟨m31_5, em31_5, h⟩ := nm_some h
                rw [em31_5] at hZ
                refine lv_iinc (v := (x3_31 + (1 : Int32))) (lv' := [(3, .int (x3_31 + (1 : Int32))), (2, .int x2_21), (1, .int x1_2), (0, .ref (G.1 0))]) hx0 hb d_Md_sumAll_69 hl (k := 0) rfl rfl (by decide) rfl (fun ls hl => ?_)
                refine lv_goto (tgt := 31) hx0 hb d_Md_sumAll_72 (by decide) ?_
                obtain rfl := Option.some.inj h
                exact hx _ _ _ hZ (lv_sub hl [0, 1, 2, 3] rfl)
              · replace h := (if_pos c31_2).symm.trans h
                refine lv_iconst (v := (0 : Int32)) hx0 hb d_Md_sumAll_59 (by decide) ?_
                refine lv_goto (tgt := 64) hx0 hb d_Md_sumAll_60 (by decide) ?_
                refine lv_imul hx0 hb d_Md_sumAll_64 ?_
                refine lv_iload_n hx0 hb d_Md_sumAll_65 rfl (lv_at hl 0 rfl) ?_
                refine lv_iadd hx0 hb d_Md_sumAll_66 ?_
                obtain ⟨hi31_6, h⟩ := chk_some h
                refine z_ialoadT (k := 10) hx0 hb hZ hi31_6 d_Md_sumAll_67 ?_
                obtain ⟨hi31_7, h⟩ := chk_some h
                refine z_iastoreT (k := 11) hx0 hb hZ hi31_7 d_Md_sumAll_68 (fun H locs hZ => ?_)
                obtain ⟨m31_8, em31_8, h⟩ := nm_some h
                rw [em31_8] at hZ
                refine lv_iinc (v := (x3_31 + (1 : Int32))) (lv' := [(3, .int (x3_31 + (1 : Int32))), (2, .int x2_21), (1, .int x1_2), (0, .ref (G.1 0))]) hx0 hb d_Md_sumAll_69 hl (k := 0) rfl rfl (by decide) rfl (fun ls hl => ?_)
                refine lv_goto (tgt := 31) hx0 hb d_Md_sumAll_72 (by decide) ?_
                obtain rfl := Option.some.inj h
                exact hx _ _ _ hZ (lv_sub hl [0, 1, 2, 3] rfl)
          · replace hZ : ZZT G s q21_2.2 H locs := hZ
            replace hl : lv_has ls 4 [(2, .int x2_21), (1, .int x1_2), (0, .ref (G.1 0))] := hl
            refine lv_aload_n hx0 hb d_Md_sumAll_75 rfl (lv_at hl 2 rfl) ?_
            refine fg_Md_sums hx0 hb hts hown hZ d_Md_sumAll_76 ?_
            refine lv_iload_n hx0 hb d_Md_sumAll_79 rfl (lv_at hl 1 rfl) ?_
            refine lv_dup2_11 hx0 hb d_Md_sumAll_80 rfl rfl ?_
            obtain ⟨hi21_3, h⟩ := chk_some h
            refine z_laloadT (k := 12) hx0 hb hZ hi21_3 d_Md_sumAll_81 ?_
            refine lv_aload_n hx0 hb d_Md_sumAll_82 rfl (lv_at hl 2 rfl) ?_
            obtain ⟨q21_4, hc21_7, h⟩ := bnd_some h
            refine k_Md_Md_answerNow [] hx0 hb hml hts hown (c_Md_answerNow l G  q21_2.2 q21_4 hc21_7) hZ rfl rfl ⟨Nat.le_of_ble_eq_true rfl, Nat.le_of_ble_eq_true rfl⟩ hl.1 rfl (Nat.le_of_ble_eq_true rfl) d_Md_sumAll_83 (fun H locs hZ => ?_)
            refine lv_ladd hx0 hb d_Md_sumAll_86 ?_
            obtain ⟨hi21_5, h⟩ := chk_some h
            refine z_lastoreT (k := 12) hx0 hb hZ hi21_5 d_Md_sumAll_87 (fun H locs hZ => ?_)
            obtain ⟨m21_6, em21_6, h⟩ := nm_some h
            rw [em21_6] at hZ
            refine lv_iinc (v := (x2_21 + (1 : Int32))) (lv' := [(2, .int (x2_21 + (1 : Int32))), (1, .int x1_2), (0, .ref (G.1 0))]) hx0 hb d_Md_sumAll_88 hl (k := 0) rfl rfl (by decide) rfl (fun ls hl => ?_)
            refine lv_goto (tgt := 21) hx0 hb d_Md_sumAll_91 (by decide) ?_
            obtain rfl := Option.some.inj h
            exact hx _ _ _ hZ (lv_sub hl [0, 1, 2] rfl)
      · replace hZ : ZZT G s q2_4.2 H locs := hZ
        replace hl : lv_has ls 4 [(1, .int x1_2), (0, .ref (G.1 0))] := hl
        refine lv_iinc (v := (x1_2 + (1 : Int32))) (lv' := [(1, .int (x1_2 + (1 : Int32))), (0, .ref (G.1 0))]) hx0 hb d_Md_sumAll_94 hl (k := 0) rfl rfl (by decide) rfl (fun ls hl => ?_)
        refine lv_goto (tgt := 2) hx0 hb d_Md_sumAll_97 (by decide) ?_
        obtain rfl := Option.some.inj h
        exact hx _ _ _ hZ (lv_sub hl [0, 1] rfl)
  · replace hZ : ZZT G s q1.2 H locs := hZ
    replace hl : lv_has ls 4 [] := hl
    obtain rfl := Option.some.inj h
    exact z_vretT hx0 hb hr hZ hlocks hQ d_Md_sumAll_100
abbrev rm_Md_part : Room := ({ frames := 0, cells := 0, slots := 0, locals := 0 } : Room)
set_option maxHeartbeats 4000000 in
set_option maxRecDepth 100000 in
theorem c_Md_part (l : Launch) (G : zG) (a0 : Int64) (a2 : Int64) (a4 : Int32) (M : Mem) (r : Int64) (h : p_Md_part a0 a2 a4 M = some r) : MetZT l G y_Md_part (Cond.code y_Md_part b_Md_part 11 (some .long) :: zws) rm_Md_part [.long a0, .long a2, .int a4] M (some (.long r)) M := by
  unfold p_Md_part at h
  refine z_ofWT (lv := [(0, .long a0), (2, .long a2), (4, .int a4)]) (by decide) (Nat.le_of_ble_eq_true rfl) rfl (fun p e R s m args below meth c Q ls F hl hZ => ?_)
  obtain ⟨hx0, hb, hml, hr, hts, hown, hlocks, rfl, hQ⟩ := F
  refine lv_lload_n hx0 hb d_Md_part_0 rfl (lv_at hl 0 rfl) ?_
  refine lv_lconst (v := (0 : Int64)) hx0 hb d_Md_part_1 (by decide) ?_
  refine W.lcmp hx0 hb d_Md_part_2 ?_
  refine lv_if_ge (tgt := 11) hx0 hb d_Md_part_3 (by decide) (fun c1 => ?_) (fun c1 => ?_)
  · replace h := (if_pos c1).symm.trans h
    refine lv_lload_n hx0 hb d_Md_part_11 rfl (lv_at hl 0 rfl) ?_
    refine lv_lstore (lv' := [(5, .long a0), (0, .long a0), (2, .long a2), (4, .int a4)]) hx0 hb d_Md_part_12 hl (by decide) rfl (fun ls hl => ?_)
    refine lv_lload_n hx0 hb d_Md_part_14 rfl (lv_at hl 2 rfl) ?_
    refine lv_lstore (lv' := [(7, .long a2), (5, .long a0), (0, .long a0), (2, .long a2), (4, .int a4)]) hx0 hb d_Md_part_15 hl (by decide) rfl (fun ls hl => ?_)
    obtain ⟨q2, hq10, h⟩ := bnd_some h
    refine W_itr (At := fun (s0 : Int64 × Int64) => ∀ (H : Heap) (locs : List Loc) (ls : Array Slot), ZZT G s M H locs → lv_has ls 11 [(7, .long s0.2), (5, .long s0.1), (0, .long a0), (2, .long a2), (4, .int a4)] → W p l e rm_Md_part s m args below meth c H locs 0 0 Q (F0 m 17 ls [])) (Ex := fun (q0 : Int64 × Int64) => ∀ (H : Heap) (locs : List Loc) (ls : Array Slot), ZZT G s M H locs → lv_has ls 11 [(5, .long q0.1), (0, .long a0), (2, .long a2), (4, .int a4)] → W p l e rm_Md_part s m args below meth c H locs 0 0 Q (F0 m 42 ls [])) (fun s0 x h hx => ?_) _ _ q2 hq10 (fun H locs ls hZ hl => ?_) _ _ _ hZ (lv_sub hl [0, 1, 2, 3, 4] rfl)
    · obtain ⟨x5_17, x7_17⟩ := s0
      replace h : p_Md_part_L17 x5_17 x7_17 = some x := h
      unfold p_Md_part_L17 at h
      intro H locs ls hZ hl
      replace hZ : ZZT G s M H locs := hZ
      replace hl : lv_has ls 11 [(7, .long x7_17), (5, .long x5_17), (0, .long a0), (2, .long a2), (4, .int a4)] := hl
      refine lv_lload hx0 hb d_Md_part_17 (lv_at hl 0 rfl) ?_
      refine lv_lconst (v := (0 : Int64)) hx0 hb d_Md_part_19 (by decide) ?_
      refine W.lcmp hx0 hb d_Md_part_20 ?_
      refine lv_if_eq (tgt := 42) hx0 hb d_Md_part_21 (by decide) (fun c17_1 => ?_) (fun c17_1 => ?_)
      · replace h := (if_pos c17_1).symm.trans h
        obtain rfl := Option.some.inj h
        exact hx _ _ _ hZ (lv_sub hl [1, 2, 3, 4] rfl)
      · replace h := (if_neg c17_1).symm.trans h
        refine lv_lload hx0 hb d_Md_part_24 (lv_at hl 1 rfl) ?_
        refine lv_lload hx0 hb d_Md_part_26 (lv_at hl 0 rfl) ?_
        obtain ⟨hn17_2, h⟩ := chk_some h
        refine lv_lrem hx0 hb d_Md_part_28 (of_decide_eq_true hn17_2) ?_
        refine lv_lstore (lv' := [(9, .long (x5_17 - x5_17 / x7_17 * x7_17)), (7, .long x7_17), (5, .long x5_17), (0, .long a0), (2, .long a2), (4, .int a4)]) hx0 hb d_Md_part_29 hl (by decide) rfl (fun ls hl => ?_)
        refine lv_lload hx0 hb d_Md_part_31 (lv_at hl 1 rfl) ?_
        refine lv_lstore (lv' := [(5, .long x7_17), (9, .long (x5_17 - x5_17 / x7_17 * x7_17)), (7, .long x7_17), (0, .long a0), (2, .long a2), (4, .int a4)]) hx0 hb d_Md_part_33 hl (by decide) rfl (fun ls hl => ?_)
        refine lv_lload hx0 hb d_Md_part_35 (lv_at hl 1 rfl) ?_
        refine lv_lstore (lv' := [(7, .long (x5_17 - x5_17 / x7_17 * x7_17)), (5, .long x7_17), (9, .long (x5_17 - x5_17 / x7_17 * x7_17)), (0, .long a0), (2, .long a2), (4, .int a4)]) hx0 hb d_Md_part_37 hl (by decide) rfl (fun ls hl => ?_)
        refine lv_goto (tgt := 17) hx0 hb d_Md_part_39 (by decide) ?_
        obtain rfl := Option.some.inj h
        exact hx _ _ _ hZ (lv_sub hl [0, 1, 3, 4, 5] rfl)
    · replace hZ : ZZT G s M H locs := hZ
      replace hl : lv_has ls 11 [(5, .long q2.1), (0, .long a0), (2, .long a2), (4, .int a4)] := hl
      refine lv_iload hx0 hb d_Md_part_42 (lv_at hl 3 rfl) ?_
      refine lv_if_ne (tgt := 54) hx0 hb d_Md_part_44 (by decide) (fun c3 => ?_) (fun c3 => ?_)
      · replace h := (if_neg c3).symm.trans h
        refine lv_lload_n hx0 hb d_Md_part_54 rfl (lv_at hl 2 rfl) ?_
        refine lv_lload hx0 hb d_Md_part_55 (lv_at hl 0 rfl) ?_
        obtain ⟨hn4, h⟩ := chk_some h
        refine lv_ldiv hx0 hb d_Md_part_57 (of_decide_eq_true hn4) ?_
        obtain rfl := Option.some.inj h
        exact z_lretT hx0 hb hr hZ hlocks hQ d_Md_part_58
      · replace h := (if_pos c3).symm.trans h
        refine lv_lload_n hx0 hb d_Md_part_47 rfl (lv_at hl 1 rfl) ?_
        refine lv_lload hx0 hb d_Md_part_48 (lv_at hl 0 rfl) ?_
        obtain ⟨hn5, h⟩ := chk_some h
        refine lv_ldiv hx0 hb d_Md_part_50 (of_decide_eq_true hn5) ?_
        refine lv_goto (tgt := 58) hx0 hb d_Md_part_51 (by decide) ?_
        obtain rfl := Option.some.inj h
        exact z_lretT hx0 hb hr hZ hlocks hQ d_Md_part_58
  · replace h := (if_neg c1).symm.trans h
    refine lv_lload_n hx0 hb d_Md_part_6 rfl (lv_at hl 0 rfl) ?_
    refine lv_lneg hx0 hb d_Md_part_7 ?_
    refine lv_goto (tgt := 12) hx0 hb d_Md_part_8 (by decide) ?_
    refine lv_lstore (lv' := [(5, .long (-a0)), (0, .long a0), (2, .long a2), (4, .int a4)]) hx0 hb d_Md_part_12 hl (by decide) rfl (fun ls hl => ?_)
    refine lv_lload_n hx0 hb d_Md_part_14 rfl (lv_at hl 2 rfl) ?_
    refine lv_lstore (lv' := [(7, .long a2), (5, .long (-a0)), (0, .long a0), (2, .long a2), (4, .int a4)]) hx0 hb d_Md_part_15 hl (by decide) rfl (fun ls hl => ?_)
    obtain ⟨q6, hq11, h⟩ := bnd_some h
    refine W_itr (At := fun (s0 : Int64 × Int64) => ∀ (H : Heap) (locs : List Loc) (ls : Array Slot), ZZT G s M H locs → lv_has ls 11 [(7, .long s0.2), (5, .long s0.1), (0, .long a0), (2, .long a2), (4, .int a4)] → W p l e rm_Md_part s m args below meth c H locs 0 0 Q (F0 m 17 ls [])) (Ex := fun (q0 : Int64 × Int64) => ∀ (H : Heap) (locs : List Loc) (ls : Array Slot), ZZT G s M H locs → lv_has ls 11 [(5, .long q0.1), (0, .long a0), (2, .long a2), (4, .int a4)] → W p l e rm_Md_part s m args below meth c H locs 0 0 Q (F0 m 42 ls [])) (fun s0 x h hx => ?_) _ _ q6 hq11 (fun H locs ls hZ hl => ?_) _ _ _ hZ (lv_sub hl [0, 1, 2, 3, 4] rfl)
    · obtain ⟨x5_17, x7_17⟩ := s0
      replace h : p_Md_part_L17 x5_17 x7_17 = some x := h
      unfold p_Md_part_L17 at h
      intro H locs ls hZ hl
      replace hZ : ZZT G s M H locs := hZ
      replace hl : lv_has ls 11 [(7, .long x7_17), (5, .long x5_17), (0, .long a0), (2, .long a2), (4, .int a4)] := hl
      refine lv_lload hx0 hb d_Md_part_17 (lv_at hl 0 rfl) ?_
      refine lv_lconst (v := (0 : Int64)) hx0 hb d_Md_part_19 (by decide) ?_
      refine W.lcmp hx0 hb d_Md_part_20 ?_
      refine lv_if_eq (tgt := 42) hx0 hb d_Md_part_21 (by decide) (fun c17_1 => ?_) (fun c17_1 => ?_)
      · replace h := (if_pos c17_1).symm.trans h
        obtain rfl := Option.some.inj h
        exact hx _ _ _ hZ (lv_sub hl [1, 2, 3, 4] rfl)
      · replace h := (if_neg c17_1).symm.trans h
        refine lv_lload hx0 hb d_Md_part_24 (lv_at hl 1 rfl) ?_
        refine lv_lload hx0 hb d_Md_part_26 (lv_at hl 0 rfl) ?_
        obtain ⟨hn17_2, h⟩ := chk_some h
        refine lv_lrem hx0 hb d_Md_part_28 (of_decide_eq_true hn17_2) ?_
        refine lv_lstore (lv' := [(9, .long (x5_17 - x5_17 / x7_17 * x7_17)), (7, .long x7_17), (5, .long x5_17), (0, .long a0), (2, .long a2), (4, .int a4)]) hx0 hb d_Md_part_29 hl (by decide) rfl (fun ls hl => ?_)
        refine lv_lload hx0 hb d_Md_part_31 (lv_at hl 1 rfl) ?_
        refine lv_lstore (lv' := [(5, .long x7_17), (9, .long (x5_17 - x5_17 / x7_17 * x7_17)), (7, .long x7_17), (0, .long a0), (2, .long a2), (4, .int a4)]) hx0 hb d_Md_part_33 hl (by decide) rfl (fun ls hl => ?_)
        refine lv_lload hx0 hb d_Md_part_35 (lv_at hl 1 rfl) ?_
        refine lv_lstore (lv' := [(7, .long (x5_17 - x5_17 / x7_17 * x7_17)), (5, .long x7_17), (9, .long (x5_17 - x5_17 / x7_17 * x7_17)), (0, .long a0), (2, .long a2), (4, .int a4)]) hx0 hb d_Md_part_37 hl (by decide) rfl (fun ls hl => ?_)
        refine lv_goto (tgt := 17) hx0 hb d_Md_part_39 (by decide) ?_
        obtain rfl := Option.some.inj h
        exact hx _ _ _ hZ (lv_sub hl [0, 1, 3, 4, 5] rfl)
    · replace hZ : ZZT G s M H locs := hZ
      replace hl : lv_has ls 11 [(5, .long q6.1), (0, .long a0), (2, .long a2), (4, .int a4)] := hl
      refine lv_iload hx0 hb d_Md_part_42 (lv_at hl 3 rfl) ?_
      refine lv_if_ne (tgt := 54) hx0 hb d_Md_part_44 (by decide) (fun c7 => ?_) (fun c7 => ?_)
      · replace h := (if_neg c7).symm.trans h
        refine lv_lload_n hx0 hb d_Md_part_54 rfl (lv_at hl 2 rfl) ?_
        refine lv_lload hx0 hb d_Md_part_55 (lv_at hl 0 rfl) ?_
        obtain ⟨hn8, h⟩ := chk_some h
        refine lv_ldiv hx0 hb d_Md_part_57 (of_decide_eq_true hn8) ?_
        obtain rfl := Option.some.inj h
        exact z_lretT hx0 hb hr hZ hlocks hQ d_Md_part_58
      · replace h := (if_pos c7).symm.trans h
        refine lv_lload_n hx0 hb d_Md_part_47 rfl (lv_at hl 1 rfl) ?_
        refine lv_lload hx0 hb d_Md_part_48 (lv_at hl 0 rfl) ?_
        obtain ⟨hn9, h⟩ := chk_some h
        refine lv_ldiv hx0 hb d_Md_part_50 (of_decide_eq_true hn9) ?_
        refine lv_goto (tgt := 58) hx0 hb d_Md_part_51 (by decide) ?_
        obtain rfl := Option.some.inj h
        exact z_lretT hx0 hb hr hZ hlocks hQ d_Md_part_58
abbrev rm_Md_value : Room := ({ frames := 2, cells := 0, slots := 0, locals := 47 } : Room)
set_option maxHeartbeats 4000000 in
set_option maxRecDepth 100000 in
theorem c_Md_value (l : Launch) (G : zG) (a1 : Int32) (a2 : Int32) (M : Mem) (r : Int64 × Mem) (h : p_Md_value a1 a2 M = some r) : MetZT l G y_Md_value (Cond.code y_Md_value b_Md_value 3 (some .long) :: zws) rm_Md_value [.ref (G.1 0), .int a1, .int a2] M (some (.long r.1)) r.2 := by
  unfold p_Md_value at h
  refine z_ofWT (lv := [(0, .ref (G.1 0)), (1, .int a1), (2, .int a2)]) (by decide) (Nat.le_of_ble_eq_true rfl) rfl (fun p e R s m args below meth c Q ls F hl hZ => ?_)
  obtain ⟨hx0, hb, hml, hr, hts, hown, hlocks, rfl, hQ⟩ := F
  refine lv_aload_n hx0 hb d_Md_value_0 rfl (lv_at hl 0 rfl) ?_
  refine lv_iconst (v := (0 : Int32)) hx0 hb d_Md_value_1 (by decide) ?_
  refine fp_Md_code hx0 hb hts hown hZ d_Md_value_2 (fun H locs hZ => ?_)
  obtain ⟨m1, em1, h⟩ := nm_some h
  rw [em1] at hZ
  refine lv_iload_n hx0 hb d_Md_value_5 rfl (lv_at hl 1 rfl) ?_
  refine lv_iconst (v := (0 : Int32)) hx0 hb d_Md_value_6 (by decide) ?_
  refine lv_iconst (v := (1 : Int32)) hx0 hb d_Md_value_7 (by decide) ?_
  refine lv_aload_n hx0 hb d_Md_value_8 rfl (lv_at hl 0 rfl) ?_
  refine fg_Md_columns hx0 hb hts hown hZ d_Md_value_9 ?_
  refine lv_ishl hx0 hb d_Md_value_12 ?_
  refine lv_iconst (v := (1 : Int32)) hx0 hb d_Md_value_13 (by decide) ?_
  refine lv_isub hx0 hb d_Md_value_14 ?_
  obtain ⟨q2, hc15, h⟩ := bnd_some h
  refine k_Md_Md_in [.int a1, .int (0 : Int32), .int (((1 : Int32) <<< ((m1.1 0 1) &&& 31)) - (1 : Int32))] hx0 hb hml hts hown (c_Md_in l G a1 (0 : Int32) (((1 : Int32) <<< ((m1.1 0 1) &&& 31)) - (1 : Int32)) m1 q2 hc15) hZ rfl rfl ⟨Nat.le_of_ble_eq_true rfl, Nat.le_of_ble_eq_true rfl⟩ hl.1 rfl (Nat.le_of_ble_eq_true rfl) d_Md_value_15 (fun H locs hZ => ?_)
  refine lv_if_eq (tgt := 30) hx0 hb d_Md_value_18 (by decide) (fun c3 => ?_) (fun c3 => ?_)
  · replace h := (if_pos c3).symm.trans h
    refine lv_ldc2 (v := (-1000000000000 : Int64)) hx0 hb hown (hts _ wk_Md_91) d_Md_value_30 ?_
    obtain rfl := Option.some.inj h
    exact z_lretT hx0 hb hr hZ hlocks hQ d_Md_value_33
  · replace h := (if_neg c3).symm.trans h
    refine lv_iload_n hx0 hb d_Md_value_21 rfl (lv_at hl 2 rfl) ?_
    refine lv_iconst (v := (0 : Int32)) hx0 hb d_Md_value_22 (by decide) ?_
    refine lv_iconst (v := (1 : Int32)) hx0 hb d_Md_value_23 (by decide) ?_
    obtain ⟨q4, hc14, h⟩ := bnd_some h
    refine k_Md_Md_in [.int a2, .int (0 : Int32), .int (1 : Int32)] hx0 hb hml hts hown (c_Md_in l G a2 (0 : Int32) (1 : Int32) m1 q4 hc14) hZ rfl rfl ⟨Nat.le_of_ble_eq_true rfl, Nat.le_of_ble_eq_true rfl⟩ hl.1 rfl (Nat.le_of_ble_eq_true rfl) d_Md_value_24 (fun H locs hZ => ?_)
    refine lv_if_ne (tgt := 34) hx0 hb d_Md_value_27 (by decide) (fun c5 => ?_) (fun c5 => ?_)
    · replace h := (if_neg c5).symm.trans h
      refine lv_aload_n hx0 hb d_Md_value_34 rfl (lv_at hl 0 rfl) ?_
      obtain ⟨q6, hc13, h⟩ := bnd_some h
      refine k_Md_Md_throwsNow [] hx0 hb hml hts hown (c_Md_throwsNow l G  m1 q6 hc13) hZ rfl rfl ⟨Nat.le_of_ble_eq_true rfl, Nat.le_of_ble_eq_true rfl⟩ hl.1 rfl (Nat.le_of_ble_eq_true rfl) d_Md_value_35 (fun H locs hZ => ?_)
      refine lv_if_eq (tgt := 43) hx0 hb d_Md_value_38 (by decide) (fun c7 => ?_) (fun c7 => ?_)
      · replace h := (if_pos c7).symm.trans h
        refine lv_aload_n hx0 hb d_Md_value_43 rfl (lv_at hl 0 rfl) ?_
        obtain ⟨q8, hc12, h⟩ := bnd_some h
        refine k_Md_Md_sumAll [] hx0 hb hml hts hown (c_Md_sumAll l G  q6.2 q8 hc12) hZ rfl rfl ⟨Nat.le_of_ble_eq_true rfl, Nat.le_of_ble_eq_true rfl⟩ hl.1 rfl (Nat.le_of_ble_eq_true rfl) d_Md_value_44 (fun H locs hZ => ?_)
        refine lv_aload_n hx0 hb d_Md_value_47 rfl (lv_at hl 0 rfl) ?_
        refine fg_Md_sums hx0 hb hts hown hZ d_Md_value_48 ?_
        refine lv_iload_n hx0 hb d_Md_value_51 rfl (lv_at hl 1 rfl) ?_
        obtain ⟨hi9, h⟩ := chk_some h
        refine z_laloadT (k := 12) hx0 hb hZ hi9 d_Md_value_52 ?_
        refine lv_aload_n hx0 hb d_Md_value_53 rfl (lv_at hl 0 rfl) ?_
        refine fg_Md_rows hx0 hb hts hown hZ d_Md_value_54 ?_
        refine lv_i2l (v := Int32.toInt64 (q8.1 0 13)) hx0 hb d_Md_value_57 rfl ?_
        refine lv_iload_n hx0 hb d_Md_value_58 rfl (lv_at hl 2 rfl) ?_
        obtain ⟨q10, hc11, h⟩ := bnd_some h
        refine k_Md_Md_part [.long (q8.2 12 (Int32.toNatClampNeg a1)), .long (Int32.toInt64 (q8.1 0 13)), .int a2] hx0 hb hml hts hown (c_Md_part l G (q8.2 12 (Int32.toNatClampNeg a1)) (Int32.toInt64 (q8.1 0 13)) a2 q8 q10 hc11) hZ rfl rfl ⟨Nat.le_of_ble_eq_true rfl, Nat.le_of_ble_eq_true rfl⟩ hl.1 rfl (Nat.le_of_ble_eq_true rfl) d_Md_value_59 (fun H locs hZ => ?_)
        obtain rfl := Option.some.inj h
        exact z_lretT hx0 hb hr hZ hlocks hQ d_Md_value_62
      · replace h := (if_neg c7).symm.trans h
        refine lv_lconst (v := (0 : Int64)) hx0 hb d_Md_value_41 (by decide) ?_
        obtain rfl := Option.some.inj h
        exact z_lretT hx0 hb hr hZ hlocks hQ d_Md_value_42
    · replace h := (if_pos c5).symm.trans h
      refine lv_ldc2 (v := (-1000000000000 : Int64)) hx0 hb hown (hts _ wk_Md_91) d_Md_value_30 ?_
      obtain rfl := Option.some.inj h
      exact z_lretT hx0 hb hr hZ hlocks hQ d_Md_value_33
abbrev rm_Md_groupBits : Room := ({ frames := 0, cells := 0, slots := 0, locals := 0 } : Room)
set_option maxHeartbeats 4000000 in
set_option maxRecDepth 100000 in
theorem c_Md_groupBits (l : Launch) (G : zG) (a1 : Int32) (M : Mem) (r : Int32) (h : p_Md_groupBits a1 M = some r) : MetZT l G y_Md_groupBits (Cond.code y_Md_groupBits b_Md_groupBits 4 (some .int) :: zws) rm_Md_groupBits [.ref (G.1 0), .int a1] M (some (.int r)) M := by
  unfold p_Md_groupBits at h
  refine z_ofWT (lv := [(0, .ref (G.1 0)), (1, .int a1)]) (by decide) (Nat.le_of_ble_eq_true rfl) rfl (fun p e R s m args below meth c Q ls F hl hZ => ?_)
  obtain ⟨hx0, hb, hml, hr, hts, hown, hlocks, rfl, hQ⟩ := F
  refine lv_iconst (v := (0 : Int32)) hx0 hb d_Md_groupBits_0 (by decide) ?_
  refine lv_istore_n (lv' := [(2, .int (0 : Int32)), (0, .ref (G.1 0)), (1, .int a1)]) hx0 hb d_Md_groupBits_1 rfl hl (by decide) rfl (fun ls hl => ?_)
  refine lv_iconst (v := (0 : Int32)) hx0 hb d_Md_groupBits_2 (by decide) ?_
  refine lv_istore_n (lv' := [(3, .int (0 : Int32)), (2, .int (0 : Int32)), (0, .ref (G.1 0)), (1, .int a1)]) hx0 hb d_Md_groupBits_3 rfl hl (by decide) rfl (fun ls hl => ?_)
  obtain ⟨q1, hq2, h⟩ := bnd_some h
  refine W_itr (At := fun (s0 : Int32 × Int32) => ∀ (H : Heap) (locs : List Loc) (ls : Array Slot), ZZT G s M H locs → lv_has ls 4 [(3, .int s0.2), (2, .int s0.1), (0, .ref (G.1 0)), (1, .int a1)] → W p l e rm_Md_groupBits s m args below meth c H locs 0 0 Q (F0 m 4 ls [])) (Ex := fun (q0 : Int32 × Int32) => ∀ (H : Heap) (locs : List Loc) (ls : Array Slot), ZZT G s M H locs → lv_has ls 4 [(2, .int q0.1)] → W p l e rm_Md_groupBits s m args below meth c H locs 0 0 Q (F0 m 38 ls [])) (fun s0 x h hx => ?_) _ _ q1 hq2 (fun H locs ls hZ hl => ?_) _ _ _ hZ (lv_sub hl [0, 1, 2, 3] rfl)
  · obtain ⟨x2_4, x3_4⟩ := s0
    replace h : p_Md_groupBits_L4 a1 M x2_4 x3_4 = some x := h
    unfold p_Md_groupBits_L4 at h
    intro H locs ls hZ hl
    replace hZ : ZZT G s M H locs := hZ
    replace hl : lv_has ls 4 [(3, .int x3_4), (2, .int x2_4), (0, .ref (G.1 0)), (1, .int a1)] := hl
    refine lv_iload_n hx0 hb d_Md_groupBits_4 rfl (lv_at hl 0 rfl) ?_
    refine lv_aload_n hx0 hb d_Md_groupBits_5 rfl (lv_at hl 2 rfl) ?_
    refine fg_Md_columns hx0 hb hts hown hZ d_Md_groupBits_6 ?_
    refine lv_icmp_ge (tgt := 38) hx0 hb d_Md_groupBits_9 (by decide) (fun c4_1 => ?_) (fun c4_1 => ?_)
    · replace h := (if_pos c4_1).symm.trans h
      obtain rfl := Option.some.inj h
      exact hx _ _ _ hZ (lv_sub hl [1] rfl)
    · replace h := (if_neg c4_1).symm.trans h
      refine lv_iload_n hx0 hb d_Md_groupBits_12 rfl (lv_at hl 1 rfl) ?_
      refine lv_aload_n hx0 hb d_Md_groupBits_13 rfl (lv_at hl 2 rfl) ?_
      refine fg_Md_groups hx0 hb hts hown hZ d_Md_groupBits_14 ?_
      refine lv_iload_n hx0 hb d_Md_groupBits_17 rfl (lv_at hl 0 rfl) ?_
      obtain ⟨hi4_2, h⟩ := chk_some h
      refine z_ialoadT (k := 8) hx0 hb hZ hi4_2 d_Md_groupBits_18 ?_
      refine lv_iload_n hx0 hb d_Md_groupBits_19 rfl (lv_at hl 3 rfl) ?_
      refine lv_icmp_ne (tgt := 29) hx0 hb d_Md_groupBits_20 (by decide) (fun c4_3 => ?_) (fun c4_3 => ?_)
      · replace h := (if_neg c4_3).symm.trans h
        refine lv_iconst (v := (0 : Int32)) hx0 hb d_Md_groupBits_29 (by decide) ?_
        refine lv_ior hx0 hb d_Md_groupBits_30 ?_
        refine lv_istore_n (lv' := [(2, .int (x2_4 ||| (0 : Int32))), (3, .int x3_4), (0, .ref (G.1 0)), (1, .int a1)]) hx0 hb d_Md_groupBits_31 rfl hl (by decide) rfl (fun ls hl => ?_)
        refine lv_iinc (v := (x3_4 + (1 : Int32))) (lv' := [(3, .int (x3_4 + (1 : Int32))), (2, .int (x2_4 ||| (0 : Int32))), (0, .ref (G.1 0)), (1, .int a1)]) hx0 hb d_Md_groupBits_32 hl (k := 1) rfl rfl (by decide) rfl (fun ls hl => ?_)
        refine lv_goto (tgt := 4) hx0 hb d_Md_groupBits_35 (by decide) ?_
        obtain rfl := Option.some.inj h
        exact hx _ _ _ hZ (lv_sub hl [0, 1, 2, 3] rfl)
      · replace h := (if_pos c4_3).symm.trans h
        refine lv_iconst (v := (1 : Int32)) hx0 hb d_Md_groupBits_23 (by decide) ?_
        refine lv_iload_n hx0 hb d_Md_groupBits_24 rfl (lv_at hl 0 rfl) ?_
        refine lv_ishl hx0 hb d_Md_groupBits_25 ?_
        refine lv_goto (tgt := 30) hx0 hb d_Md_groupBits_26 (by decide) ?_
        refine lv_ior hx0 hb d_Md_groupBits_30 ?_
        refine lv_istore_n (lv' := [(2, .int (x2_4 ||| ((1 : Int32) <<< (x3_4 &&& 31)))), (3, .int x3_4), (0, .ref (G.1 0)), (1, .int a1)]) hx0 hb d_Md_groupBits_31 rfl hl (by decide) rfl (fun ls hl => ?_)
        refine lv_iinc (v := (x3_4 + (1 : Int32))) (lv' := [(3, .int (x3_4 + (1 : Int32))), (2, .int (x2_4 ||| ((1 : Int32) <<< (x3_4 &&& 31)))), (0, .ref (G.1 0)), (1, .int a1)]) hx0 hb d_Md_groupBits_32 hl (k := 1) rfl rfl (by decide) rfl (fun ls hl => ?_)
        refine lv_goto (tgt := 4) hx0 hb d_Md_groupBits_35 (by decide) ?_
        obtain rfl := Option.some.inj h
        exact hx _ _ _ hZ (lv_sub hl [0, 1, 2, 3] rfl)
  · replace hZ : ZZT G s M H locs := hZ
    replace hl : lv_has ls 4 [(2, .int q1.1)] := hl
    refine lv_iload_n hx0 hb d_Md_groupBits_38 rfl (lv_at hl 0 rfl) ?_
    obtain rfl := Option.some.inj h
    exact z_iretT hx0 hb hr hZ hlocks hQ d_Md_groupBits_39
abbrev rm_Md_listParts : Room := ({ frames := 1, cells := 0, slots := 0, locals := 23 } : Room)
set_option maxHeartbeats 4000000 in
set_option maxRecDepth 100000 in
theorem c_Md_listParts (l : Launch) (G : zG) (a1 : Int32) (a2 : Int32) (M : Mem) (r : Mem) (h : p_Md_listParts a1 a2 M = some r) : MetZT l G y_Md_listParts (Cond.code y_Md_listParts b_Md_listParts 5 none :: zws) rm_Md_listParts [.ref (G.1 0), .int a1, .int a2] M none r := by
  unfold p_Md_listParts at h
  refine z_ofWT (lv := [(0, .ref (G.1 0)), (1, .int a1), (2, .int a2)]) (by decide) (Nat.le_of_ble_eq_true rfl) rfl (fun p e R s m args below meth c Q ls F hl hZ => ?_)
  obtain ⟨hx0, hb, hml, hr, hts, hown, hlocks, rfl, hQ⟩ := F
  refine lv_aload_n hx0 hb d_Md_listParts_0 rfl (lv_at hl 0 rfl) ?_
  refine lv_iconst (v := (0 : Int32)) hx0 hb d_Md_listParts_1 (by decide) ?_
  refine fp_Md_many hx0 hb hts hown hZ d_Md_listParts_2 (fun H locs hZ => ?_)
  obtain ⟨m1, em1, h⟩ := nm_some h
  rw [em1] at hZ
  refine lv_iload_n hx0 hb d_Md_listParts_5 rfl (lv_at hl 1 rfl) ?_
  refine lv_if_eq (tgt := 23) hx0 hb d_Md_listParts_6 (by decide) (fun c2 => ?_) (fun c2 => ?_)
  · replace h := (if_pos c2).symm.trans h
    refine lv_iconst (v := (0 : Int32)) hx0 hb d_Md_listParts_23 (by decide) ?_
    refine lv_istore_n (lv' := [(3, .int (0 : Int32)), (0, .ref (G.1 0)), (1, .int a1), (2, .int a2)]) hx0 hb d_Md_listParts_24 rfl hl (by decide) rfl (fun ls hl => ?_)
    obtain ⟨q3, hq8, h⟩ := bnd_some h
    refine W_itr (At := fun (s0 : Int32 × Mem) => ∀ (H : Heap) (locs : List Loc) (ls : Array Slot), ZZT G s s0.2 H locs → lv_has ls 5 [(3, .int s0.1), (0, .ref (G.1 0)), (1, .int a1), (2, .int a2)] → W p l e rm_Md_listParts s m args below meth c H locs 0 0 Q (F0 m 25 ls [])) (Ex := fun (q0 : Int32 × Mem) => ∀ (H : Heap) (locs : List Loc) (ls : Array Slot), ZZT G s q0.2 H locs → lv_has ls 5 [] → W p l e rm_Md_listParts s m args below meth c H locs 0 0 Q (F0 m 81 ls [])) (fun s0 x h hx => ?_) _ _ q3 hq8 (fun H locs ls hZ hl => ?_) _ _ _ hZ (lv_sub hl [0, 1, 2, 3] rfl)
    · obtain ⟨x3_25, M_25⟩ := s0
      replace h : p_Md_listParts_L25 a1 a2 x3_25 M_25 = some x := h
      unfold p_Md_listParts_L25 at h
      intro H locs ls hZ hl
      replace hZ : ZZT G s M_25 H locs := hZ
      replace hl : lv_has ls 5 [(3, .int x3_25), (0, .ref (G.1 0)), (1, .int a1), (2, .int a2)] := hl
      refine lv_iload_n hx0 hb d_Md_listParts_25 rfl (lv_at hl 0 rfl) ?_
      refine lv_aload_n hx0 hb d_Md_listParts_26 rfl (lv_at hl 1 rfl) ?_
      refine fg_Md_columns hx0 hb hts hown hZ d_Md_listParts_27 ?_
      refine lv_icmp_ge (tgt := 81) hx0 hb d_Md_listParts_30 (by decide) (fun c25_1 => ?_) (fun c25_1 => ?_)
      · replace h := (if_pos c25_1).symm.trans h
        obtain rfl := Option.some.inj h
        exact hx _ _ _ hZ (lv_sub hl [] rfl)
      · replace h := (if_neg c25_1).symm.trans h
        refine lv_aload_n hx0 hb d_Md_listParts_33 rfl (lv_at hl 1 rfl) ?_
        refine lv_iload_n hx0 hb d_Md_listParts_34 rfl (lv_at hl 0 rfl) ?_
        obtain ⟨q25_2, hc25_8, h⟩ := bnd_some h
        refine k_Md_Md_groupBits [.int x3_25] hx0 hb hml hts hown (c_Md_groupBits l G x3_25 M_25 q25_2 hc25_8) hZ rfl rfl ⟨Nat.le_of_ble_eq_true rfl, Nat.le_of_ble_eq_true rfl⟩ hl.1 rfl (Nat.le_of_ble_eq_true rfl) d_Md_listParts_35 (fun H locs hZ => ?_)
        refine lv_istore (lv' := [(4, .int q25_2), (3, .int x3_25), (0, .ref (G.1 0)), (1, .int a1), (2, .int a2)]) hx0 hb d_Md_listParts_38 hl (by decide) rfl (fun ls hl => ?_)
        refine lv_iload hx0 hb d_Md_listParts_40 (lv_at hl 0 rfl) ?_
        refine lv_if_eq (tgt := 75) hx0 hb d_Md_listParts_42 (by decide) (fun c25_3 => ?_) (fun c25_3 => ?_)
        · replace h := (if_pos c25_3).symm.trans h
          refine lv_iinc (v := (x3_25 + (1 : Int32))) (lv' := [(3, .int (x3_25 + (1 : Int32))), (4, .int q25_2), (0, .ref (G.1 0)), (1, .int a1), (2, .int a2)]) hx0 hb d_Md_listParts_75 hl (k := 1) rfl rfl (by decide) rfl (fun ls hl => ?_)
          refine lv_goto (tgt := 25) hx0 hb d_Md_listParts_78 (by decide) ?_
          obtain rfl := Option.some.inj h
          exact hx _ _ _ hZ (lv_sub hl [0, 2, 3, 4] rfl)
        · replace h := (if_neg c25_3).symm.trans h
          refine lv_iload hx0 hb d_Md_listParts_45 (lv_at hl 0 rfl) ?_
          refine lv_iload_n hx0 hb d_Md_listParts_47 rfl (lv_at hl 3 rfl) ?_
          refine lv_iload_n hx0 hb d_Md_listParts_48 rfl (lv_at hl 4 rfl) ?_
          refine lv_ior hx0 hb d_Md_listParts_49 ?_
          refine lv_iand hx0 hb d_Md_listParts_50 ?_
          refine lv_if_ne (tgt := 75) hx0 hb d_Md_listParts_51 (by decide) (fun c25_4 => ?_) (fun c25_4 => ?_)
          · replace h := (if_neg c25_4).symm.trans h
            refine lv_iinc (v := (x3_25 + (1 : Int32))) (lv' := [(3, .int (x3_25 + (1 : Int32))), (4, .int q25_2), (0, .ref (G.1 0)), (1, .int a1), (2, .int a2)]) hx0 hb d_Md_listParts_75 hl (k := 1) rfl rfl (by decide) rfl (fun ls hl => ?_)
            refine lv_goto (tgt := 25) hx0 hb d_Md_listParts_78 (by decide) ?_
            obtain rfl := Option.some.inj h
            exact hx _ _ _ hZ (lv_sub hl [0, 2, 3, 4] rfl)
          · replace h := (if_pos c25_4).symm.trans h
            refine lv_aload_n hx0 hb d_Md_listParts_54 rfl (lv_at hl 2 rfl) ?_
            refine fg_Md_parts hx0 hb hts hown hZ d_Md_listParts_55 ?_
            refine lv_aload_n hx0 hb d_Md_listParts_58 rfl (lv_at hl 2 rfl) ?_
            refine fg_Md_many hx0 hb hts hown hZ d_Md_listParts_59 ?_
            refine lv_iload hx0 hb d_Md_listParts_62 (lv_at hl 0 rfl) ?_
            obtain ⟨hi25_5, h⟩ := chk_some h
            refine z_iastoreT (k := 13) hx0 hb hZ hi25_5 d_Md_listParts_64 (fun H locs hZ => ?_)
            obtain ⟨m25_6, em25_6, h⟩ := nm_some h
            rw [em25_6] at hZ
            refine lv_aload_n hx0 hb d_Md_listParts_65 rfl (lv_at hl 2 rfl) ?_
            refine lv_dup hx0 hb d_Md_listParts_66 rfl ?_
            refine fg_Md_many hx0 hb hts hown hZ d_Md_listParts_67 ?_
            refine lv_iconst (v := (1 : Int32)) hx0 hb d_Md_listParts_70 (by decide) ?_
            refine lv_iadd hx0 hb d_Md_listParts_71 ?_
            refine fp_Md_many hx0 hb hts hown hZ d_Md_listParts_72 (fun H locs hZ => ?_)
            obtain ⟨m25_7, em25_7, h⟩ := nm_some h
            rw [em25_7] at hZ
            refine lv_iinc (v := (x3_25 + (1 : Int32))) (lv' := [(3, .int (x3_25 + (1 : Int32))), (4, .int q25_2), (0, .ref (G.1 0)), (1, .int a1), (2, .int a2)]) hx0 hb d_Md_listParts_75 hl (k := 1) rfl rfl (by decide) rfl (fun ls hl => ?_)
            refine lv_goto (tgt := 25) hx0 hb d_Md_listParts_78 (by decide) ?_
            obtain rfl := Option.some.inj h
            exact hx _ _ _ hZ (lv_sub hl [0, 2, 3, 4] rfl)
    · replace hZ : ZZT G s q3.2 H locs := hZ
      replace hl : lv_has ls 5 [] := hl
      obtain rfl := Option.some.inj h
      exact z_vretT hx0 hb hr hZ hlocks hQ d_Md_listParts_81
  · replace h := (if_neg c2).symm.trans h
    refine lv_aload_n hx0 hb d_Md_listParts_9 rfl (lv_at hl 0 rfl) ?_
    refine fg_Md_parts hx0 hb hts hown hZ d_Md_listParts_10 ?_
    refine lv_iconst (v := (0 : Int32)) hx0 hb d_Md_listParts_13 (by decide) ?_
    refine lv_iload_n hx0 hb d_Md_listParts_14 rfl (lv_at hl 1 rfl) ?_
    refine lv_iload_n hx0 hb d_Md_listParts_15 rfl (lv_at hl 2 rfl) ?_
    refine lv_ior hx0 hb d_Md_listParts_16 ?_
    obtain ⟨hi4, h⟩ := chk_some h
    refine z_iastoreT (k := 13) hx0 hb hZ hi4 d_Md_listParts_17 (fun H locs hZ => ?_)
    obtain ⟨m5, em5, h⟩ := nm_some h
    rw [em5] at hZ
    refine lv_aload_n hx0 hb d_Md_listParts_18 rfl (lv_at hl 0 rfl) ?_
    refine lv_iconst (v := (1 : Int32)) hx0 hb d_Md_listParts_19 (by decide) ?_
    refine fp_Md_many hx0 hb hts hown hZ d_Md_listParts_20 (fun H locs hZ => ?_)
    obtain ⟨m6, em6, h⟩ := nm_some h
    rw [em6] at hZ
    refine lv_iconst (v := (0 : Int32)) hx0 hb d_Md_listParts_23 (by decide) ?_
    refine lv_istore_n (lv' := [(3, .int (0 : Int32)), (0, .ref (G.1 0)), (1, .int a1), (2, .int a2)]) hx0 hb d_Md_listParts_24 rfl hl (by decide) rfl (fun ls hl => ?_)
    obtain ⟨q7, hq9, h⟩ := bnd_some h
    refine W_itr (At := fun (s0 : Int32 × Mem) => ∀ (H : Heap) (locs : List Loc) (ls : Array Slot), ZZT G s s0.2 H locs → lv_has ls 5 [(3, .int s0.1), (0, .ref (G.1 0)), (1, .int a1), (2, .int a2)] → W p l e rm_Md_listParts s m args below meth c H locs 0 0 Q (F0 m 25 ls [])) (Ex := fun (q0 : Int32 × Mem) => ∀ (H : Heap) (locs : List Loc) (ls : Array Slot), ZZT G s q0.2 H locs → lv_has ls 5 [] → W p l e rm_Md_listParts s m args below meth c H locs 0 0 Q (F0 m 81 ls [])) (fun s0 x h hx => ?_) _ _ q7 hq9 (fun H locs ls hZ hl => ?_) _ _ _ hZ (lv_sub hl [0, 1, 2, 3] rfl)
    · obtain ⟨x3_25, M_25⟩ := s0
      replace h : p_Md_listParts_L25 a1 a2 x3_25 M_25 = some x := h
      unfold p_Md_listParts_L25 at h
      intro H locs ls hZ hl
      replace hZ : ZZT G s M_25 H locs := hZ
      replace hl : lv_has ls 5 [(3, .int x3_25), (0, .ref (G.1 0)), (1, .int a1), (2, .int a2)] := hl
      refine lv_iload_n hx0 hb d_Md_listParts_25 rfl (lv_at hl 0 rfl) ?_
      refine lv_aload_n hx0 hb d_Md_listParts_26 rfl (lv_at hl 1 rfl) ?_
      refine fg_Md_columns hx0 hb hts hown hZ d_Md_listParts_27 ?_
      refine lv_icmp_ge (tgt := 81) hx0 hb d_Md_listParts_30 (by decide) (fun c25_1 => ?_) (fun c25_1 => ?_)
      · replace h := (if_pos c25_1).symm.trans h
        obtain rfl := Option.some.inj h
        exact hx _ _ _ hZ (lv_sub hl [] rfl)
      · replace h := (if_neg c25_1).symm.trans h
        refine lv_aload_n hx0 hb d_Md_listParts_33 rfl (lv_at hl 1 rfl) ?_
        refine lv_iload_n hx0 hb d_Md_listParts_34 rfl (lv_at hl 0 rfl) ?_
        obtain ⟨q25_2, hc25_8, h⟩ := bnd_some h
        refine k_Md_Md_groupBits [.int x3_25] hx0 hb hml hts hown (c_Md_groupBits l G x3_25 M_25 q25_2 hc25_8) hZ rfl rfl ⟨Nat.le_of_ble_eq_true rfl, Nat.le_of_ble_eq_true rfl⟩ hl.1 rfl (Nat.le_of_ble_eq_true rfl) d_Md_listParts_35 (fun H locs hZ => ?_)
        refine lv_istore (lv' := [(4, .int q25_2), (3, .int x3_25), (0, .ref (G.1 0)), (1, .int a1), (2, .int a2)]) hx0 hb d_Md_listParts_38 hl (by decide) rfl (fun ls hl => ?_)
        refine lv_iload hx0 hb d_Md_listParts_40 (lv_at hl 0 rfl) ?_
        refine lv_if_eq (tgt := 75) hx0 hb d_Md_listParts_42 (by decide) (fun c25_3 => ?_) (fun c25_3 => ?_)
        · replace h := (if_pos c25_3).symm.trans h
          refine lv_iinc (v := (x3_25 + (1 : Int32))) (lv' := [(3, .int (x3_25 + (1 : Int32))), (4, .int q25_2), (0, .ref (G.1 0)), (1, .int a1), (2, .int a2)]) hx0 hb d_Md_listParts_75 hl (k := 1) rfl rfl (by decide) rfl (fun ls hl => ?_)
          refine lv_goto (tgt := 25) hx0 hb d_Md_listParts_78 (by decide) ?_
          obtain rfl := Option.some.inj h
          exact hx _ _ _ hZ (lv_sub hl [0, 2, 3, 4] rfl)
        · replace h := (if_neg c25_3).symm.trans h
          refine lv_iload hx0 hb d_Md_listParts_45 (lv_at hl 0 rfl) ?_
          refine lv_iload_n hx0 hb d_Md_listParts_47 rfl (lv_at hl 3 rfl) ?_
          refine lv_iload_n hx0 hb d_Md_listParts_48 rfl (lv_at hl 4 rfl) ?_
          refine lv_ior hx0 hb d_Md_listParts_49 ?_
          refine lv_iand hx0 hb d_Md_listParts_50 ?_
          refine lv_if_ne (tgt := 75) hx0 hb d_Md_listParts_51 (by decide) (fun c25_4 => ?_) (fun c25_4 => ?_)
          · replace h := (if_neg c25_4).symm.trans h
            refine lv_iinc (v := (x3_25 + (1 : Int32))) (lv' := [(3, .int (x3_25 + (1 : Int32))), (4, .int q25_2), (0, .ref (G.1 0)), (1, .int a1), (2, .int a2)]) hx0 hb d_Md_listParts_75 hl (k := 1) rfl rfl (by decide) rfl (fun ls hl => ?_)
            refine lv_goto (tgt := 25) hx0 hb d_Md_listParts_78 (by decide) ?_
            obtain rfl := Option.some.inj h
            exact hx _ _ _ hZ (lv_sub hl [0, 2, 3, 4] rfl)
          · replace h := (if_pos c25_4).symm.trans h
            refine lv_aload_n hx0 hb d_Md_listParts_54 rfl (lv_at hl 2 rfl) ?_
            refine fg_Md_parts hx0 hb hts hown hZ d_Md_listParts_55 ?_
            refine lv_aload_n hx0 hb d_Md_listParts_58 rfl (lv_at hl 2 rfl) ?_
            refine fg_Md_many hx0 hb hts hown hZ d_Md_listParts_59 ?_
            refine lv_iload hx0 hb d_Md_listParts_62 (lv_at hl 0 rfl) ?_
            obtain ⟨hi25_5, h⟩ := chk_some h
            refine z_iastoreT (k := 13) hx0 hb hZ hi25_5 d_Md_listParts_64 (fun H locs hZ => ?_)
            obtain ⟨m25_6, em25_6, h⟩ := nm_some h
            rw [em25_6] at hZ
            refine lv_aload_n hx0 hb d_Md_listParts_65 rfl (lv_at hl 2 rfl) ?_
            refine lv_dup hx0 hb d_Md_listParts_66 rfl ?_
            refine fg_Md_many hx0 hb hts hown hZ d_Md_listParts_67 ?_
            refine lv_iconst (v := (1 : Int32)) hx0 hb d_Md_listParts_70 (by decide) ?_
            refine lv_iadd hx0 hb d_Md_listParts_71 ?_
            refine fp_Md_many hx0 hb hts hown hZ d_Md_listParts_72 (fun H locs hZ => ?_)
            obtain ⟨m25_7, em25_7, h⟩ := nm_some h
            rw [em25_7] at hZ
            refine lv_iinc (v := (x3_25 + (1 : Int32))) (lv' := [(3, .int (x3_25 + (1 : Int32))), (4, .int q25_2), (0, .ref (G.1 0)), (1, .int a1), (2, .int a2)]) hx0 hb d_Md_listParts_75 hl (k := 1) rfl rfl (by decide) rfl (fun ls hl => ?_)
            refine lv_goto (tgt := 25) hx0 hb d_Md_listParts_78 (by decide) ?_
            obtain rfl := Option.some.inj h
            exact hx _ _ _ hZ (lv_sub hl [0, 2, 3, 4] rfl)
    · replace hZ : ZZT G s q7.2 H locs := hZ
      replace hl : lv_has ls 5 [] := hl
      obtain rfl := Option.some.inj h
      exact z_vretT hx0 hb hr hZ hlocks hQ d_Md_listParts_81
abbrev rm_Md_orders : Room := ({ frames := 0, cells := 0, slots := 0, locals := 0 } : Room)
set_option maxHeartbeats 4000000 in
set_option maxRecDepth 100000 in
theorem c_Md_orders (l : Launch) (G : zG)  (M : Mem) (r : Int32) (h : p_Md_orders  M = some r) : MetZT l G y_Md_orders (Cond.code y_Md_orders b_Md_orders 3 (some .int) :: zws) rm_Md_orders [.ref (G.1 0)] M (some (.int r)) M := by
  unfold p_Md_orders at h
  refine z_ofWT (lv := [(0, .ref (G.1 0))]) (by decide) (Nat.le_of_ble_eq_true rfl) rfl (fun p e R s m args below meth c Q ls F hl hZ => ?_)
  obtain ⟨hx0, hb, hml, hr, hts, hown, hlocks, rfl, hQ⟩ := F
  refine lv_iconst (v := (1 : Int32)) hx0 hb d_Md_orders_0 (by decide) ?_
  refine lv_istore_n (lv' := [(1, .int (1 : Int32)), (0, .ref (G.1 0))]) hx0 hb d_Md_orders_1 rfl hl (by decide) rfl (fun ls hl => ?_)
  refine lv_iconst (v := (2 : Int32)) hx0 hb d_Md_orders_2 (by decide) ?_
  refine lv_istore_n (lv' := [(2, .int (2 : Int32)), (1, .int (1 : Int32)), (0, .ref (G.1 0))]) hx0 hb d_Md_orders_3 rfl hl (by decide) rfl (fun ls hl => ?_)
  obtain ⟨q1, hq2, h⟩ := bnd_some h
  refine W_itr (At := fun (s0 : Int32 × Int32) => ∀ (H : Heap) (locs : List Loc) (ls : Array Slot), ZZT G s M H locs → lv_has ls 3 [(2, .int s0.2), (1, .int s0.1), (0, .ref (G.1 0))] → W p l e rm_Md_orders s m args below meth c H locs 0 0 Q (F0 m 4 ls [])) (Ex := fun (q0 : Int32 × Int32) => ∀ (H : Heap) (locs : List Loc) (ls : Array Slot), ZZT G s M H locs → lv_has ls 3 [(1, .int q0.1)] → W p l e rm_Md_orders s m args below meth c H locs 0 0 Q (F0 m 22 ls [])) (fun s0 x h hx => ?_) _ _ q1 hq2 (fun H locs ls hZ hl => ?_) _ _ _ hZ (lv_sub hl [0, 1, 2] rfl)
  · obtain ⟨x1_4, x2_4⟩ := s0
    replace h : p_Md_orders_L4 M x1_4 x2_4 = some x := h
    unfold p_Md_orders_L4 at h
    intro H locs ls hZ hl
    replace hZ : ZZT G s M H locs := hZ
    replace hl : lv_has ls 3 [(2, .int x2_4), (1, .int x1_4), (0, .ref (G.1 0))] := hl
    refine lv_iload_n hx0 hb d_Md_orders_4 rfl (lv_at hl 0 rfl) ?_
    refine lv_aload_n hx0 hb d_Md_orders_5 rfl (lv_at hl 2 rfl) ?_
    refine fg_Md_many hx0 hb hts hown hZ d_Md_orders_6 ?_
    refine lv_icmp_gt (tgt := 22) hx0 hb d_Md_orders_9 (by decide) (fun c4_1 => ?_) (fun c4_1 => ?_)
    · replace h := (if_pos c4_1).symm.trans h
      obtain rfl := Option.some.inj h
      exact hx _ _ _ hZ (lv_sub hl [1] rfl)
    · replace h := (if_neg c4_1).symm.trans h
      refine lv_iload_n hx0 hb d_Md_orders_12 rfl (lv_at hl 1 rfl) ?_
      refine lv_iload_n hx0 hb d_Md_orders_13 rfl (lv_at hl 0 rfl) ?_
      refine lv_imul hx0 hb d_Md_orders_14 ?_
      refine lv_istore_n (lv' := [(1, .int (x1_4 * x2_4)), (2, .int x2_4), (0, .ref (G.1 0))]) hx0 hb d_Md_orders_15 rfl hl (by decide) rfl (fun ls hl => ?_)
      refine lv_iinc (v := (x2_4 + (1 : Int32))) (lv' := [(2, .int (x2_4 + (1 : Int32))), (1, .int (x1_4 * x2_4)), (0, .ref (G.1 0))]) hx0 hb d_Md_orders_16 hl (k := 1) rfl rfl (by decide) rfl (fun ls hl => ?_)
      refine lv_goto (tgt := 4) hx0 hb d_Md_orders_19 (by decide) ?_
      obtain rfl := Option.some.inj h
      exact hx _ _ _ hZ (lv_sub hl [0, 1, 2] rfl)
  · replace hZ : ZZT G s M H locs := hZ
    replace hl : lv_has ls 3 [(1, .int q1.1)] := hl
    refine lv_iload_n hx0 hb d_Md_orders_22 rfl (lv_at hl 0 rfl) ?_
    obtain rfl := Option.some.inj h
    exact z_iretT hx0 hb hr hZ hlocks hQ d_Md_orders_23
abbrev rm_Md_layOrder : Room := ({ frames := 0, cells := 0, slots := 0, locals := 0 } : Room)
set_option maxHeartbeats 4000000 in
set_option maxRecDepth 100000 in
theorem c_Md_layOrder (l : Launch) (G : zG) (a1 : Int32) (M : Mem) (r : Mem) (h : p_Md_layOrder a1 M = some r) : MetZT l G y_Md_layOrder (Cond.code y_Md_layOrder b_Md_layOrder 7 none :: zws) rm_Md_layOrder [.ref (G.1 0), .int a1] M none r := by
  unfold p_Md_layOrder at h
  refine z_ofWT (lv := [(0, .ref (G.1 0)), (1, .int a1)]) (by decide) (Nat.le_of_ble_eq_true rfl) rfl (fun p e R s m args below meth c Q ls F hl hZ => ?_)
  obtain ⟨hx0, hb, hml, hr, hts, hown, hlocks, rfl, hQ⟩ := F
  refine lv_iload_n hx0 hb d_Md_layOrder_0 rfl (lv_at hl 1 rfl) ?_
  refine lv_istore_n (lv' := [(2, .int a1), (0, .ref (G.1 0)), (1, .int a1)]) hx0 hb d_Md_layOrder_1 rfl hl (by decide) rfl (fun ls hl => ?_)
  refine lv_iconst (v := (0 : Int32)) hx0 hb d_Md_layOrder_2 (by decide) ?_
  refine lv_istore_n (lv' := [(3, .int (0 : Int32)), (2, .int a1), (0, .ref (G.1 0)), (1, .int a1)]) hx0 hb d_Md_layOrder_3 rfl hl (by decide) rfl (fun ls hl => ?_)
  refine lv_iconst (v := (0 : Int32)) hx0 hb d_Md_layOrder_4 (by decide) ?_
  refine lv_istore (lv' := [(4, .int (0 : Int32)), (3, .int (0 : Int32)), (2, .int a1), (0, .ref (G.1 0)), (1, .int a1)]) hx0 hb d_Md_layOrder_5 hl (by decide) rfl (fun ls hl => ?_)
  obtain ⟨q1, hq2, h⟩ := bnd_some h
  refine W_itr (At := fun (s0 : Int32 × Int32 × Int32 × Mem) => ∀ (H : Heap) (locs : List Loc) (ls : Array Slot), ZZT G s s0.2.2.2 H locs → lv_has ls 7 [(4, .int s0.2.2.1), (3, .int s0.2.1), (2, .int s0.1), (0, .ref (G.1 0))] → W p l e rm_Md_layOrder s m args below meth c H locs 0 0 Q (F0 m 7 ls [])) (Ex := fun (q0 : Int32 × Int32 × Int32 × Mem) => ∀ (H : Heap) (locs : List Loc) (ls : Array Slot), ZZT G s q0.2.2.2 H locs → lv_has ls 7 [] → W p l e rm_Md_layOrder s m args below meth c H locs 0 0 Q (F0 m 103 ls [])) (fun s0 x h hx => ?_) _ _ q1 hq2 (fun H locs ls hZ hl => ?_) _ _ _ hZ (lv_sub hl [0, 1, 2, 3] rfl)
  · obtain ⟨x2_7, x3_7, x4_7, M_7⟩ := s0
    replace h : p_Md_layOrder_L7 x2_7 x3_7 x4_7 M_7 = some x := h
    unfold p_Md_layOrder_L7 at h
    intro H locs ls hZ hl
    replace hZ : ZZT G s M_7 H locs := hZ
    replace hl : lv_has ls 7 [(4, .int x4_7), (3, .int x3_7), (2, .int x2_7), (0, .ref (G.1 0))] := hl
    refine lv_iload hx0 hb d_Md_layOrder_7 (lv_at hl 0 rfl) ?_
    refine lv_aload_n hx0 hb d_Md_layOrder_9 rfl (lv_at hl 3 rfl) ?_
    refine fg_Md_many hx0 hb hts hown hZ d_Md_layOrder_10 ?_
    refine lv_icmp_ge (tgt := 103) hx0 hb d_Md_layOrder_13 (by decide) (fun c7_1 => ?_) (fun c7_1 => ?_)
    · replace h := (if_pos c7_1).symm.trans h
      obtain rfl := Option.some.inj h
      exact hx _ _ _ hZ (lv_sub hl [] rfl)
    · replace h := (if_neg c7_1).symm.trans h
      refine lv_iload_n hx0 hb d_Md_layOrder_16 rfl (lv_at hl 2 rfl) ?_
      refine lv_aload_n hx0 hb d_Md_layOrder_17 rfl (lv_at hl 3 rfl) ?_
      refine fg_Md_many hx0 hb hts hown hZ d_Md_layOrder_18 ?_
      refine lv_iload hx0 hb d_Md_layOrder_21 (lv_at hl 0 rfl) ?_
      refine lv_isub hx0 hb d_Md_layOrder_23 ?_
      obtain ⟨hn7_2, h⟩ := chk_some h
      refine lv_irem hx0 hb d_Md_layOrder_24 (of_decide_eq_true hn7_2) ?_
      refine lv_istore (lv' := [(5, .int (x2_7 - x2_7 / ((M_7.1 0 17) - x4_7) * ((M_7.1 0 17) - x4_7))), (4, .int x4_7), (3, .int x3_7), (2, .int x2_7), (0, .ref (G.1 0))]) hx0 hb d_Md_layOrder_25 hl (by decide) rfl (fun ls hl => ?_)
      refine lv_iload_n hx0 hb d_Md_layOrder_27 rfl (lv_at hl 3 rfl) ?_
      refine lv_aload_n hx0 hb d_Md_layOrder_28 rfl (lv_at hl 4 rfl) ?_
      refine fg_Md_many hx0 hb hts hown hZ d_Md_layOrder_29 ?_
      refine lv_iload hx0 hb d_Md_layOrder_32 (lv_at hl 1 rfl) ?_
      refine lv_isub hx0 hb d_Md_layOrder_34 ?_
      obtain ⟨hn7_3, h⟩ := chk_some h
      refine lv_idiv hx0 hb d_Md_layOrder_35 (of_decide_eq_true hn7_3) ?_
      refine lv_istore_n (lv' := [(2, .int (x2_7 / ((M_7.1 0 17) - x4_7))), (5, .int (x2_7 - x2_7 / ((M_7.1 0 17) - x4_7) * ((M_7.1 0 17) - x4_7))), (4, .int x4_7), (3, .int x3_7), (0, .ref (G.1 0))]) hx0 hb d_Md_layOrder_36 rfl hl (by decide) rfl (fun ls hl => ?_)
      refine lv_iconst (v := (0 : Int32)) hx0 hb d_Md_layOrder_37 (by decide) ?_
      refine lv_istore (lv' := [(6, .int (0 : Int32)), (2, .int (x2_7 / ((M_7.1 0 17) - x4_7))), (5, .int (x2_7 - x2_7 / ((M_7.1 0 17) - x4_7) * ((M_7.1 0 17) - x4_7))), (4, .int x4_7), (3, .int x3_7), (0, .ref (G.1 0))]) hx0 hb d_Md_layOrder_38 hl (by decide) rfl (fun ls hl => ?_)
      obtain ⟨q7_4, hq3, h⟩ := bnd_some h
      refine W_itr (At := fun (s0 : Int32 × Int32) => ∀ (H : Heap) (locs : List Loc) (ls : Array Slot), ZZT G s M_7 H locs → lv_has ls 7 [(6, .int s0.2), (2, .int (x2_7 / ((M_7.1 0 17) - x4_7))), (5, .int s0.1), (4, .int x4_7), (3, .int x3_7), (0, .ref (G.1 0))] → W p l e rm_Md_layOrder s m args below meth c H locs 0 0 Q (F0 m 40 ls [])) (Ex := fun (q0 : Int32 × Int32) => ∀ (H : Heap) (locs : List Loc) (ls : Array Slot), ZZT G s M_7 H locs → lv_has ls 7 [(6, .int q0.2), (2, .int (x2_7 / ((M_7.1 0 17) - x4_7))), (4, .int x4_7), (3, .int x3_7), (0, .ref (G.1 0))] → W p l e rm_Md_layOrder s m args below meth c H locs 0 0 Q (F0 m 81 ls [])) (fun s0 x h hx => ?_) _ _ q7_4 hq3 (fun H locs ls hZ hl => ?_) _ _ _ hZ (lv_sub hl [0, 1, 2, 3, 4, 5] rfl)
      · obtain ⟨x5_40, x6_40⟩ := s0
        replace h : p_Md_layOrder_L40 x3_7 x5_40 x6_40 = some x := h
        unfold p_Md_layOrder_L40 at h
        intro H locs ls hZ hl
        replace hZ : ZZT G s M_7 H locs := hZ
        replace hl : lv_has ls 7 [(6, .int x6_40), (2, .int (x2_7 / ((M_7.1 0 17) - x4_7))), (5, .int x5_40), (4, .int x4_7), (3, .int x3_7), (0, .ref (G.1 0))] := hl
        refine lv_iload_n hx0 hb d_Md_layOrder_40 rfl (lv_at hl 4 rfl) ?_
        refine lv_iload hx0 hb d_Md_layOrder_41 (lv_at hl 0 rfl) ?_
        refine lv_ishr hx0 hb d_Md_layOrder_43 ?_
        refine lv_iconst (v := (1 : Int32)) hx0 hb d_Md_layOrder_44 (by decide) ?_
        refine lv_iand hx0 hb d_Md_layOrder_45 ?_
        refine lv_iconst (v := (1 : Int32)) hx0 hb d_Md_layOrder_46 (by decide) ?_
        refine lv_icmp_eq (tgt := 55) hx0 hb d_Md_layOrder_47 (by decide) (fun c40_1 => ?_) (fun c40_1 => ?_)
        · replace h := (if_pos c40_1).symm.trans h
          refine lv_iload hx0 hb d_Md_layOrder_55 (lv_at hl 2 rfl) ?_
          refine lv_iload_n hx0 hb d_Md_layOrder_57 rfl (lv_at hl 4 rfl) ?_
          refine lv_iload hx0 hb d_Md_layOrder_58 (lv_at hl 0 rfl) ?_
          refine lv_ishr hx0 hb d_Md_layOrder_60 ?_
          refine lv_iconst (v := (1 : Int32)) hx0 hb d_Md_layOrder_61 (by decide) ?_
          refine lv_iand hx0 hb d_Md_layOrder_62 ?_
          refine lv_iconst (v := (1 : Int32)) hx0 hb d_Md_layOrder_63 (by decide) ?_
          refine lv_icmp_ne (tgt := 71) hx0 hb d_Md_layOrder_64 (by decide) (fun c40_2 => ?_) (fun c40_2 => ?_)
          · replace h := (if_neg c40_2).symm.trans h
            refine lv_iconst (v := (1 : Int32)) hx0 hb d_Md_layOrder_71 (by decide) ?_
            refine lv_isub hx0 hb d_Md_layOrder_72 ?_
            refine lv_istore (lv' := [(5, .int (x5_40 - (1 : Int32))), (6, .int x6_40), (2, .int (x2_7 / ((M_7.1 0 17) - x4_7))), (4, .int x4_7), (3, .int x3_7), (0, .ref (G.1 0))]) hx0 hb d_Md_layOrder_73 hl (by decide) rfl (fun ls hl => ?_)
            refine lv_iinc (v := (x6_40 + (1 : Int32))) (lv' := [(6, .int (x6_40 + (1 : Int32))), (5, .int (x5_40 - (1 : Int32))), (2, .int (x2_7 / ((M_7.1 0 17) - x4_7))), (4, .int x4_7), (3, .int x3_7), (0, .ref (G.1 0))]) hx0 hb d_Md_layOrder_75 hl (k := 1) rfl rfl (by decide) rfl (fun ls hl => ?_)
            refine lv_goto (tgt := 40) hx0 hb d_Md_layOrder_78 (by decide) ?_
            obtain rfl := Option.some.inj h
            exact hx _ _ _ hZ (lv_sub hl [0, 2, 1, 3, 4, 5] rfl)
          · replace h := (if_pos c40_2).symm.trans h
            refine lv_iconst (v := (0 : Int32)) hx0 hb d_Md_layOrder_67 (by decide) ?_
            refine lv_goto (tgt := 72) hx0 hb d_Md_layOrder_68 (by decide) ?_
            refine lv_isub hx0 hb d_Md_layOrder_72 ?_
            refine lv_istore (lv' := [(5, .int (x5_40 - (0 : Int32))), (6, .int x6_40), (2, .int (x2_7 / ((M_7.1 0 17) - x4_7))), (4, .int x4_7), (3, .int x3_7), (0, .ref (G.1 0))]) hx0 hb d_Md_layOrder_73 hl (by decide) rfl (fun ls hl => ?_)
            refine lv_iinc (v := (x6_40 + (1 : Int32))) (lv' := [(6, .int (x6_40 + (1 : Int32))), (5, .int (x5_40 - (0 : Int32))), (2, .int (x2_7 / ((M_7.1 0 17) - x4_7))), (4, .int x4_7), (3, .int x3_7), (0, .ref (G.1 0))]) hx0 hb d_Md_layOrder_75 hl (k := 1) rfl rfl (by decide) rfl (fun ls hl => ?_)
            refine lv_goto (tgt := 40) hx0 hb d_Md_layOrder_78 (by decide) ?_
            obtain rfl := Option.some.inj h
            exact hx _ _ _ hZ (lv_sub hl [0, 2, 1, 3, 4, 5] rfl)
        · replace h := (if_neg c40_1).symm.trans h
          refine lv_iload hx0 hb d_Md_layOrder_50 (lv_at hl 2 rfl) ?_
          refine lv_if_le (tgt := 81) hx0 hb d_Md_layOrder_52 (by decide) (fun c40_3 => ?_) (fun c40_3 => ?_)
          · replace h := (if_pos c40_3).symm.trans h
            obtain rfl := Option.some.inj h
            exact hx _ _ _ hZ (lv_sub hl [0, 1, 3, 4, 5] rfl)
          · replace h := (if_neg c40_3).symm.trans h
            refine lv_iload hx0 hb d_Md_layOrder_55 (lv_at hl 2 rfl) ?_
            refine lv_iload_n hx0 hb d_Md_layOrder_57 rfl (lv_at hl 4 rfl) ?_
            refine lv_iload hx0 hb d_Md_layOrder_58 (lv_at hl 0 rfl) ?_
            refine lv_ishr hx0 hb d_Md_layOrder_60 ?_
            refine lv_iconst (v := (1 : Int32)) hx0 hb d_Md_layOrder_61 (by decide) ?_
            refine lv_iand hx0 hb d_Md_layOrder_62 ?_
            refine lv_iconst (v := (1 : Int32)) hx0 hb d_Md_layOrder_63 (by decide) ?_
            refine lv_icmp_ne (tgt := 71) hx0 hb d_Md_layOrder_64 (by decide) (fun c40_4 => ?_) (fun c40_4 => ?_)
            · replace h := (if_neg c40_4).symm.trans h
              refine lv_iconst (v := (1 : Int32)) hx0 hb d_Md_layOrder_71 (by decide) ?_
              refine lv_isub hx0 hb d_Md_layOrder_72 ?_
              refine lv_istore (lv' := [(5, .int (x5_40 - (1 : Int32))), (6, .int x6_40), (2, .int (x2_7 / ((M_7.1 0 17) - x4_7))), (4, .int x4_7), (3, .int x3_7), (0, .ref (G.1 0))]) hx0 hb d_Md_layOrder_73 hl (by decide) rfl (fun ls hl => ?_)
              refine lv_iinc (v := (x6_40 + (1 : Int32))) (lv' := [(6, .int (x6_40 + (1 : Int32))), (5, .int (x5_40 - (1 : Int32))), (2, .int (x2_7 / ((M_7.1 0 17) - x4_7))), (4, .int x4_7), (3, .int x3_7), (0, .ref (G.1 0))]) hx0 hb d_Md_layOrder_75 hl (k := 1) rfl rfl (by decide) rfl (fun ls hl => ?_)
              refine lv_goto (tgt := 40) hx0 hb d_Md_layOrder_78 (by decide) ?_
              obtain rfl := Option.some.inj h
              exact hx _ _ _ hZ (lv_sub hl [0, 2, 1, 3, 4, 5] rfl)
            · replace h := (if_pos c40_4).symm.trans h
              refine lv_iconst (v := (0 : Int32)) hx0 hb d_Md_layOrder_67 (by decide) ?_
              refine lv_goto (tgt := 72) hx0 hb d_Md_layOrder_68 (by decide) ?_
              refine lv_isub hx0 hb d_Md_layOrder_72 ?_
              refine lv_istore (lv' := [(5, .int (x5_40 - (0 : Int32))), (6, .int x6_40), (2, .int (x2_7 / ((M_7.1 0 17) - x4_7))), (4, .int x4_7), (3, .int x3_7), (0, .ref (G.1 0))]) hx0 hb d_Md_layOrder_73 hl (by decide) rfl (fun ls hl => ?_)
              refine lv_iinc (v := (x6_40 + (1 : Int32))) (lv' := [(6, .int (x6_40 + (1 : Int32))), (5, .int (x5_40 - (0 : Int32))), (2, .int (x2_7 / ((M_7.1 0 17) - x4_7))), (4, .int x4_7), (3, .int x3_7), (0, .ref (G.1 0))]) hx0 hb d_Md_layOrder_75 hl (k := 1) rfl rfl (by decide) rfl (fun ls hl => ?_)
              refine lv_goto (tgt := 40) hx0 hb d_Md_layOrder_78 (by decide) ?_
              obtain rfl := Option.some.inj h
              exact hx _ _ _ hZ (lv_sub hl [0, 2, 1, 3, 4, 5] rfl)
      · replace hZ : ZZT G s M_7 H locs := hZ
        replace hl : lv_has ls 7 [(6, .int q7_4.2), (2, .int (x2_7 / ((M_7.1 0 17) - x4_7))), (4, .int x4_7), (3, .int x3_7), (0, .ref (G.1 0))] := hl
        refine lv_iload_n hx0 hb d_Md_layOrder_81 rfl (lv_at hl 3 rfl) ?_
        refine lv_iconst (v := (1 : Int32)) hx0 hb d_Md_layOrder_82 (by decide) ?_
        refine lv_iload hx0 hb d_Md_layOrder_83 (lv_at hl 0 rfl) ?_
        refine lv_ishl hx0 hb d_Md_layOrder_85 ?_
        refine lv_ior hx0 hb d_Md_layOrder_86 ?_
        refine lv_istore_n (lv' := [(3, .int (x3_7 ||| ((1 : Int32) <<< (q7_4.2 &&& 31)))), (6, .int q7_4.2), (2, .int (x2_7 / ((M_7.1 0 17) - x4_7))), (4, .int x4_7), (0, .ref (G.1 0))]) hx0 hb d_Md_layOrder_87 rfl hl (by decide) rfl (fun ls hl => ?_)
        refine lv_aload_n hx0 hb d_Md_layOrder_88 rfl (lv_at hl 4 rfl) ?_
        refine fg_Md_order hx0 hb hts hown hZ d_Md_layOrder_89 ?_
        refine lv_iload hx0 hb d_Md_layOrder_92 (lv_at hl 3 rfl) ?_
        refine lv_iload hx0 hb d_Md_layOrder_94 (lv_at hl 1 rfl) ?_
        obtain ⟨hi7_5, h⟩ := chk_some h
        refine z_iastoreT (k := 14) hx0 hb hZ hi7_5 d_Md_layOrder_96 (fun H locs hZ => ?_)
        obtain ⟨m7_6, em7_6, h⟩ := nm_some h
        rw [em7_6] at hZ
        refine lv_iinc (v := (x4_7 + (1 : Int32))) (lv' := [(4, .int (x4_7 + (1 : Int32))), (3, .int (x3_7 ||| ((1 : Int32) <<< (q7_4.2 &&& 31)))), (6, .int q7_4.2), (2, .int (x2_7 / ((M_7.1 0 17) - x4_7))), (0, .ref (G.1 0))]) hx0 hb d_Md_layOrder_97 hl (k := 3) rfl rfl (by decide) rfl (fun ls hl => ?_)
        refine lv_goto (tgt := 7) hx0 hb d_Md_layOrder_100 (by decide) ?_
        obtain rfl := Option.some.inj h
        exact hx _ _ _ hZ (lv_sub hl [0, 1, 3, 4] rfl)
  · replace hZ : ZZT G s q1.2.2.2 H locs := hZ
    replace hl : lv_has ls 7 [] := hl
    obtain rfl := Option.some.inj h
    exact z_vretT hx0 hb hr hZ hlocks hQ d_Md_layOrder_103
