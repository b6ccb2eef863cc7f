abbrev rm_Md_partial : Room := ({ frames := 2, cells := 0, slots := 0, locals := 43 } : Room)
set_option maxHeartbeats 4000000 in
set_option maxRecDepth 100000 in
theorem c_Md_partial (l : Launch) (G : zG) (a1 : Int32) (a2 : Int32) (a3 : Int32) (M : Mem) (r : Int64 × Mem) (h : p_Md_partial a1 a2 a3 M = some r) : MetZT l G y_Md_partial (Cond.code y_Md_partial b_Md_partial 7 (some .long) :: zws) rm_Md_partial [.ref (G.1 0), .int a1, .int a2, .int a3] M (some (.long r.1)) r.2 := by
  unfold p_Md_partial at h
  refine z_ofWT (lv := [(0, .ref (G.1 0)), (1, .int a1), (2, .int a2), (3, .int a3)]) (by decide) (Nat.le_of_ble_eq_true rfl) rfl (fun p e R s m args below meth c Q ls F hl hZ => ?_)
  obtain ⟨hx0, hb, hml, hr, hts, hown, hlocks, rfl, hQ⟩ := F
  refine lv_aload_n hx0 hb d_Md_partial_0 rfl (lv_at hl 0 rfl) ?_
  refine lv_iconst (v := (0 : Int32)) hx0 hb d_Md_partial_1 (by decide) ?_
  refine fp_Md_code hx0 hb hts hown hZ d_Md_partial_2 (fun H locs hZ => ?_)
  obtain ⟨m1, em1, h⟩ := nm_some h
  rw [em1] at hZ
  refine lv_aload_n hx0 hb d_Md_partial_5 rfl (lv_at hl 0 rfl) ?_
  refine lv_iload_n hx0 hb d_Md_partial_6 rfl (lv_at hl 1 rfl) ?_
  obtain ⟨q2, hc16, h⟩ := bnd_some h
  refine k_Md_Md_isColumn [.int a1] hx0 hb hml hts hown (c_Md_isColumn l G a1 m1 q2 hc16) hZ rfl rfl ⟨Nat.le_of_ble_eq_true rfl, Nat.le_of_ble_eq_true rfl⟩ hl.1 rfl (Nat.le_of_ble_eq_true rfl) d_Md_partial_7 (fun H locs hZ => ?_)
  refine lv_if_eq (tgt := 33) hx0 hb d_Md_partial_10 (by decide) (fun c3 => ?_) (fun c3 => ?_)
  · replace h := (if_pos c3).symm.trans h
    refine lv_ldc2 (v := (-1000000000000 : Int64)) hx0 hb hown (hts _ wk_Md_91) d_Md_partial_33 ?_
    obtain rfl := Option.some.inj h
    exact z_lretT hx0 hb hr hZ hlocks hQ d_Md_partial_36
  · replace h := (if_neg c3).symm.trans h
    refine lv_iload_n hx0 hb d_Md_partial_13 rfl (lv_at hl 2 rfl) ?_
    refine lv_bipush (v := (-100 : Int32)) hx0 hb d_Md_partial_14 (by decide) ?_
    refine lv_bipush (v := (100 : Int32)) hx0 hb d_Md_partial_16 (by decide) ?_
    obtain ⟨q4, hc15, h⟩ := bnd_some h
    refine k_Md_Md_in [.int a2, .int (-100 : Int32), .int (100 : Int32)] hx0 hb hml hts hown (c_Md_in l G a2 (-100 : Int32) (100 : Int32) m1 q4 hc15) hZ rfl rfl ⟨Nat.le_of_ble_eq_true rfl, Nat.le_of_ble_eq_true rfl⟩ hl.1 rfl (Nat.le_of_ble_eq_true rfl) d_Md_partial_18 (fun H locs hZ => ?_)
    refine lv_if_eq (tgt := 33) hx0 hb d_Md_partial_21 (by decide) (fun c5 => ?_) (fun c5 => ?_)
    · replace h := (if_pos c5).symm.trans h
      refine lv_ldc2 (v := (-1000000000000 : Int64)) hx0 hb hown (hts _ wk_Md_91) d_Md_partial_33 ?_
      obtain rfl := Option.some.inj h
      exact z_lretT hx0 hb hr hZ hlocks hQ d_Md_partial_36
    · replace h := (if_neg c5).symm.trans h
      refine lv_iload_n hx0 hb d_Md_partial_24 rfl (lv_at hl 3 rfl) ?_
      refine lv_iconst (v := (0 : Int32)) hx0 hb d_Md_partial_25 (by decide) ?_
      refine lv_iconst (v := (1 : Int32)) hx0 hb d_Md_partial_26 (by decide) ?_
      obtain ⟨q6, hc14, h⟩ := bnd_some h
      refine k_Md_Md_in [.int a3, .int (0 : Int32), .int (1 : Int32)] hx0 hb hml hts hown (c_Md_in l G a3 (0 : Int32) (1 : Int32) m1 q6 hc14) hZ rfl rfl ⟨Nat.le_of_ble_eq_true rfl, Nat.le_of_ble_eq_true rfl⟩ hl.1 rfl (Nat.le_of_ble_eq_true rfl) d_Md_partial_27 (fun H locs hZ => ?_)
      refine lv_if_ne (tgt := 37) hx0 hb d_Md_partial_30 (by decide) (fun c7 => ?_) (fun c7 => ?_)
      · replace h := (if_neg c7).symm.trans h
        refine lv_aload_n hx0 hb d_Md_partial_37 rfl (lv_at hl 0 rfl) ?_
        obtain ⟨q8, hc13, h⟩ := bnd_some h
        refine k_Md_Md_throwsNow [] hx0 hb hml hts hown (c_Md_throwsNow l G  m1 q8 hc13) hZ rfl rfl ⟨Nat.le_of_ble_eq_true rfl, Nat.le_of_ble_eq_true rfl⟩ hl.1 rfl (Nat.le_of_ble_eq_true rfl) d_Md_partial_38 (fun H locs hZ => ?_)
        refine lv_if_eq (tgt := 46) hx0 hb d_Md_partial_41 (by decide) (fun c9 => ?_) (fun c9 => ?_)
        · replace h := (if_pos c9).symm.trans h
          refine lv_lconst (v := (0 : Int64)) hx0 hb d_Md_partial_46 (by decide) ?_
          refine lv_lstore (lv' := [(4, .long (0 : Int64)), (0, .ref (G.1 0)), (1, .int a1), (2, .int a2), (3, .int a3)]) hx0 hb d_Md_partial_47 hl (by decide) rfl (fun ls hl => ?_)
          refine lv_iconst (v := (1 : Int32)) hx0 hb d_Md_partial_49 (by decide) ?_
          refine lv_istore (lv' := [(6, .int (1 : Int32)), (4, .long (0 : Int64)), (0, .ref (G.1 0)), (1, .int a1), (2, .int a2), (3, .int a3)]) hx0 hb d_Md_partial_50 hl (by decide) rfl (fun ls hl => ?_)
          obtain ⟨q10, hq17, h⟩ := bnd_some h
          refine W_itr (At := fun (s0 : Int64 × Int32 × Mem) => ∀ (H : Heap) (locs : List Loc) (ls : Array Slot), ZZT G s s0.2.2 H locs → lv_has ls 7 [(6, .int s0.2.1), (4, .long s0.1), (0, .ref (G.1 0)), (1, .int a1), (2, .int a2), (3, .int a3)] → W p l e rm_Md_partial s m args below meth c H locs 0 0 Q (F0 m 52 ls [])) (Ex := fun (q0 : Int64 × Int32 × Mem) => ∀ (H : Heap) (locs : List Loc) (ls : Array Slot), ZZT G s q0.2.2 H locs → lv_has ls 7 [(4, .long q0.1), (0, .ref (G.1 0)), (3, .int a3)] → W p l e rm_Md_partial s m args below meth c H locs 0 0 Q (F0 m 89 ls [])) (fun s0 x h hx => ?_) _ _ q10 hq17 (fun H locs ls hZ hl => ?_) _ _ _ hZ (lv_sub hl [0, 1, 2, 3, 4, 5] rfl)
          · obtain ⟨x4_52, x6_52, M_52⟩ := s0
            replace h : p_Md_partial_L52 a1 a2 x4_52 x6_52 M_52 = some x := h
            unfold p_Md_partial_L52 at h
            intro H locs ls hZ hl
            replace hZ : ZZT G s M_52 H locs := hZ
            replace hl : lv_has ls 7 [(6, .int x6_52), (4, .long x4_52), (0, .ref (G.1 0)), (1, .int a1), (2, .int a2), (3, .int a3)] := hl
            refine lv_iload hx0 hb d_Md_partial_52 (lv_at hl 0 rfl) ?_
            refine lv_aload_n hx0 hb d_Md_partial_54 rfl (lv_at hl 2 rfl) ?_
            refine fg_Md_rows hx0 hb hts hown hZ d_Md_partial_55 ?_
            refine lv_icmp_gt (tgt := 89) hx0 hb d_Md_partial_58 (by decide) (fun c52_1 => ?_) (fun c52_1 => ?_)
            · replace h := (if_pos c52_1).symm.trans h
              obtain rfl := Option.some.inj h
              exact hx _ _ _ hZ (lv_sub hl [1, 2, 5] rfl)
            · replace h := (if_neg c52_1).symm.trans h
              refine lv_aload_n hx0 hb d_Md_partial_61 rfl (lv_at hl 2 rfl) ?_
              refine lv_iload hx0 hb d_Md_partial_62 (lv_at hl 0 rfl) ?_
              obtain ⟨q52_2, hc52_7, h⟩ := bnd_some h
              refine k_Md_Md_take [.int x6_52] hx0 hb hml hts hown (c_Md_take l G x6_52 M_52 q52_2 hc52_7) hZ rfl rfl ⟨Nat.le_of_ble_eq_true rfl, Nat.le_of_ble_eq_true rfl⟩ hl.1 rfl (Nat.le_of_ble_eq_true rfl) d_Md_partial_64 (fun H locs hZ => ?_)
              refine lv_aload_n hx0 hb d_Md_partial_67 rfl (lv_at hl 2 rfl) ?_
              refine fg_Md_now hx0 hb hts hown hZ d_Md_partial_68 ?_
              refine lv_iload_n hx0 hb d_Md_partial_71 rfl (lv_at hl 3 rfl) ?_
              refine lv_iload_n hx0 hb d_Md_partial_72 rfl (lv_at hl 4 rfl) ?_
              obtain ⟨hi52_3, h⟩ := chk_some h
              refine z_iastoreT (k := 11) hx0 hb hZ hi52_3 d_Md_partial_73 (fun H locs hZ => ?_)
              obtain ⟨m52_4, em52_4, h⟩ := nm_some h
              rw [em52_4] at hZ
              refine lv_lload hx0 hb d_Md_partial_74 (lv_at hl 1 rfl) ?_
              refine lv_aload_n hx0 hb d_Md_partial_76 rfl (lv_at hl 2 rfl) ?_
              obtain ⟨q52_5, hc52_6, h⟩ := bnd_some h
              refine k_Md_Md_answerNow [] hx0 hb hml hts hown (c_Md_answerNow l G  m52_4 q52_5 hc52_6) hZ rfl rfl ⟨Nat.le_of_ble_eq_true rfl, Nat.le_of_ble_eq_true rfl⟩ hl.1 rfl (Nat.le_of_ble_eq_true rfl) d_Md_partial_77 (fun H locs hZ => ?_)
              refine lv_ladd hx0 hb d_Md_partial_80 ?_
              refine lv_lstore (lv' := [(4, .long (x4_52 + q52_5)), (6, .int x6_52), (0, .ref (G.1 0)), (1, .int a1), (2, .int a2), (3, .int a3)]) hx0 hb d_Md_partial_81 hl (by decide) rfl (fun ls hl => ?_)
              refine lv_iinc (v := (x6_52 + (1 : Int32))) (lv' := [(6, .int (x6_52 + (1 : Int32))), (4, .long (x4_52 + q52_5)), (0, .ref (G.1 0)), (1, .int a1), (2, .int a2), (3, .int a3)]) hx0 hb d_Md_partial_83 hl (k := 1) rfl rfl (by decide) rfl (fun ls hl => ?_)
              refine lv_goto (tgt := 52) hx0 hb d_Md_partial_86 (by decide) ?_
              obtain rfl := Option.some.inj h
              exact hx _ _ _ hZ (lv_sub hl [0, 1, 2, 3, 4, 5] rfl)
          · replace hZ : ZZT G s q10.2.2 H locs := hZ
            replace hl : lv_has ls 7 [(4, .long q10.1), (0, .ref (G.1 0)), (3, .int a3)] := hl
            refine lv_lload hx0 hb d_Md_partial_89 (lv_at hl 0 rfl) ?_
            refine lv_aload_n hx0 hb d_Md_partial_91 rfl (lv_at hl 1 rfl) ?_
            refine fg_Md_rows hx0 hb hts hown hZ d_Md_partial_92 ?_
            refine lv_i2l (v := Int32.toInt64 (q10.2.2.1 0 13)) hx0 hb d_Md_partial_95 rfl ?_
            refine lv_iload_n hx0 hb d_Md_partial_96 rfl (lv_at hl 2 rfl) ?_
            obtain ⟨q11, hc12, h⟩ := bnd_some h
            refine k_Md_Md_part [.long q10.1, .long (Int32.toInt64 (q10.2.2.1 0 13)), .int a3] hx0 hb hml hts hown (c_Md_part l G q10.1 (Int32.toInt64 (q10.2.2.1 0 13)) a3 q10.2.2 q11 hc12) hZ rfl rfl ⟨Nat.le_of_ble_eq_true rfl, Nat.le_of_ble_eq_true rfl⟩ hl.1 rfl (Nat.le_of_ble_eq_true rfl) d_Md_partial_97 (fun H locs hZ => ?_)
            obtain rfl := Option.some.inj h
            exact z_lretT hx0 hb hr hZ hlocks hQ d_Md_partial_100
        · replace h := (if_neg c9).symm.trans h
          refine lv_lconst (v := (0 : Int64)) hx0 hb d_Md_partial_44 (by decide) ?_
          obtain rfl := Option.some.inj h
          exact z_lretT hx0 hb hr hZ hlocks hQ d_Md_partial_45
      · replace h := (if_pos c7).symm.trans h
        refine lv_ldc2 (v := (-1000000000000 : Int64)) hx0 hb hown (hts _ wk_Md_91) d_Md_partial_33 ?_
        obtain rfl := Option.some.inj h
        exact z_lretT hx0 hb hr hZ hlocks hQ d_Md_partial_36
abbrev rm_Md_worth : Room := ({ frames := 2, cells := 0, slots := 0, locals := 43 } : Room)
set_option maxHeartbeats 4000000 in
set_option maxRecDepth 100000 in
theorem c_Md_worth (l : Launch) (G : zG) (a1 : Int32) (a2 : Int32) (M : Mem) (r : Int64 × Mem) (h : p_Md_worth a1 a2 M = some r) : MetZT l G y_Md_worth (Cond.code y_Md_worth b_Md_worth 11 (some .long) :: zws) rm_Md_worth [.ref (G.1 0), .int a1, .int a2] M (some (.long r.1)) r.2 := by
  unfold p_Md_worth at h
  refine z_ofWT (lv := [(0, .ref (G.1 0)), (1, .int a1), (2, .int a2)]) (by decide) (Nat.le_of_ble_eq_true rfl) rfl (fun p e R s m args below meth c Q ls F hl hZ => ?_)
  obtain ⟨hx0, hb, hml, hr, hts, hown, hlocks, rfl, hQ⟩ := F
  refine lv_aload_n hx0 hb d_Md_worth_0 rfl (lv_at hl 0 rfl) ?_
  refine lv_iconst (v := (0 : Int32)) hx0 hb d_Md_worth_1 (by decide) ?_
  refine fp_Md_code hx0 hb hts hown hZ d_Md_worth_2 (fun H locs hZ => ?_)
  obtain ⟨m1, em1, h⟩ := nm_some h
  rw [em1] at hZ
  refine lv_aload_n hx0 hb d_Md_worth_5 rfl (lv_at hl 0 rfl) ?_
  refine lv_iload_n hx0 hb d_Md_worth_6 rfl (lv_at hl 1 rfl) ?_
  obtain ⟨q2, hc13, h⟩ := bnd_some h
  refine k_Md_Md_isColumn [.int a1] hx0 hb hml hts hown (c_Md_isColumn l G a1 m1 q2 hc13) hZ rfl rfl ⟨Nat.le_of_ble_eq_true rfl, Nat.le_of_ble_eq_true rfl⟩ hl.1 rfl (Nat.le_of_ble_eq_true rfl) d_Md_worth_7 (fun H locs hZ => ?_)
  refine lv_if_eq (tgt := 22) hx0 hb d_Md_worth_10 (by decide) (fun c3 => ?_) (fun c3 => ?_)
  · replace h := (if_pos c3).symm.trans h
    refine lv_ldc2 (v := (-1000000000000 : Int64)) hx0 hb hown (hts _ wk_Md_91) d_Md_worth_22 ?_
    obtain rfl := Option.some.inj h
    exact z_lretT hx0 hb hr hZ hlocks hQ d_Md_worth_25
  · replace h := (if_neg c3).symm.trans h
    refine lv_iload_n hx0 hb d_Md_worth_13 rfl (lv_at hl 2 rfl) ?_
    refine lv_iconst (v := (0 : Int32)) hx0 hb d_Md_worth_14 (by decide) ?_
    refine lv_iconst (v := (1 : Int32)) hx0 hb d_Md_worth_15 (by decide) ?_
    obtain ⟨q4, hc12, h⟩ := bnd_some h
    refine k_Md_Md_in [.int a2, .int (0 : Int32), .int (1 : Int32)] hx0 hb hml hts hown (c_Md_in l G a2 (0 : Int32) (1 : Int32) m1 q4 hc12) hZ rfl rfl ⟨Nat.le_of_ble_eq_true rfl, Nat.le_of_ble_eq_true rfl⟩ hl.1 rfl (Nat.le_of_ble_eq_true rfl) d_Md_worth_16 (fun H locs hZ => ?_)
    refine lv_if_ne (tgt := 26) hx0 hb d_Md_worth_19 (by decide) (fun c5 => ?_) (fun c5 => ?_)
    · replace h := (if_neg c5).symm.trans h
      refine lv_aload_n hx0 hb d_Md_worth_26 rfl (lv_at hl 0 rfl) ?_
      obtain ⟨q6, hc11, h⟩ := bnd_some h
      refine k_Md_Md_throwsNow [] hx0 hb hml hts hown (c_Md_throwsNow l G  m1 q6 hc11) hZ rfl rfl ⟨Nat.le_of_ble_eq_true rfl, Nat.le_of_ble_eq_true rfl⟩ hl.1 rfl (Nat.le_of_ble_eq_true rfl) d_Md_worth_27 (fun H locs hZ => ?_)
      refine lv_if_eq (tgt := 35) hx0 hb d_Md_worth_30 (by decide) (fun c7 => ?_) (fun c7 => ?_)
      · replace h := (if_pos c7).symm.trans h
        refine lv_lconst (v := (0 : Int64)) hx0 hb d_Md_worth_35 (by decide) ?_
        refine lv_lstore_n (lv' := [(3, .long (0 : Int64)), (0, .ref (G.1 0)), (1, .int a1), (2, .int a2)]) hx0 hb d_Md_worth_36 rfl hl (by decide) rfl (fun ls hl => ?_)
        refine lv_iconst (v := (1 : Int32)) hx0 hb d_Md_worth_37 (by decide) ?_
        refine lv_istore (lv' := [(5, .int (1 : Int32)), (3, .long (0 : Int64)), (0, .ref (G.1 0)), (1, .int a1), (2, .int a2)]) hx0 hb d_Md_worth_38 hl (by decide) rfl (fun ls hl => ?_)
        obtain ⟨q8, hq14, h⟩ := bnd_some h
        refine W_itr (At := fun (s0 : Int64 × Int32 × Mem) => ∀ (H : Heap) (locs : List Loc) (ls : Array Slot), ZZT G s s0.2.2 H locs → lv_has ls 11 [(5, .int s0.2.1), (3, .long s0.1), (0, .ref (G.1 0)), (1, .int a1), (2, .int a2)] → W p l e rm_Md_worth s m args below meth c H locs 0 0 Q (F0 m 40 ls [])) (Ex := fun (q0 : Int64 × Int32 × Mem) => ∀ (H : Heap) (locs : List Loc) (ls : Array Slot), ZZT G s q0.2.2 H locs → lv_has ls 11 [(3, .long q0.1), (0, .ref (G.1 0)), (2, .int a2)] → W p l e rm_Md_worth s m args below meth c H locs 0 0 Q (F0 m 120 ls [])) (fun s0 x h hx => ?_) _ _ q8 hq14 (fun H locs ls hZ hl => ?_) _ _ _ hZ (lv_sub hl [0, 1, 2, 3, 4] rfl)
        · obtain ⟨x3_40, x5_40, M_40⟩ := s0
          replace h : p_Md_worth_L40 a1 x3_40 x5_40 M_40 = some x := h
          unfold p_Md_worth_L40 at h
          intro H locs ls hZ hl
          replace hZ : ZZT G s M_40 H locs := hZ
          replace hl : lv_has ls 11 [(5, .int x5_40), (3, .long x3_40), (0, .ref (G.1 0)), (1, .int a1), (2, .int a2)] := hl
          refine lv_iload hx0 hb d_Md_worth_40 (lv_at hl 0 rfl) ?_
          refine lv_aload_n hx0 hb d_Md_worth_42 rfl (lv_at hl 2 rfl) ?_
          refine fg_Md_rows hx0 hb hts hown hZ d_Md_worth_43 ?_
          refine lv_icmp_gt (tgt := 120) hx0 hb d_Md_worth_46 (by decide) (fun c40_1 => ?_) (fun c40_1 => ?_)
          · replace h := (if_pos c40_1).symm.trans h
            obtain rfl := Option.some.inj h
            exact hx _ _ _ hZ (lv_sub hl [1, 2, 4] rfl)
          · replace h := (if_neg c40_1).symm.trans h
            refine lv_aload_n hx0 hb d_Md_worth_49 rfl (lv_at hl 2 rfl) ?_
            refine lv_iload hx0 hb d_Md_worth_50 (lv_at hl 0 rfl) ?_
            obtain ⟨q40_2, hc40_6, h⟩ := bnd_some h
            refine k_Md_Md_take [.int x5_40] hx0 hb hml hts hown (c_Md_take l G x5_40 M_40 q40_2 hc40_6) hZ rfl rfl ⟨Nat.le_of_ble_eq_true rfl, Nat.le_of_ble_eq_true rfl⟩ hl.1 rfl (Nat.le_of_ble_eq_true rfl) d_Md_worth_52 (fun H locs hZ => ?_)
            refine lv_aload_n hx0 hb d_Md_worth_55 rfl (lv_at hl 2 rfl) ?_
            obtain ⟨q40_3, hc40_5, h⟩ := bnd_some h
            refine k_Md_Md_answerNow [] hx0 hb hml hts hown (c_Md_answerNow l G  q40_2 q40_3 hc40_5) hZ rfl rfl ⟨Nat.le_of_ble_eq_true rfl, Nat.le_of_ble_eq_true rfl⟩ hl.1 rfl (Nat.le_of_ble_eq_true rfl) d_Md_worth_56 (fun H locs hZ => ?_)
            refine lv_lstore (lv' := [(6, .long q40_3), (5, .int x5_40), (3, .long x3_40), (0, .ref (G.1 0)), (1, .int a1), (2, .int a2)]) hx0 hb d_Md_worth_59 hl (by decide) rfl (fun ls hl => ?_)
            refine lv_iconst (v := (1 : Int32)) hx0 hb d_Md_worth_61 (by decide) ?_
            refine lv_istore (lv' := [(8, .int (1 : Int32)), (6, .long q40_3), (5, .int x5_40), (3, .long x3_40), (0, .ref (G.1 0)), (1, .int a1), (2, .int a2)]) hx0 hb d_Md_worth_62 hl (by decide) rfl (fun ls hl => ?_)
            obtain ⟨q40_4, hq15, h⟩ := bnd_some h
            refine W_itr (At := fun (s0 : Int64 × Int32 × Mem) => ∀ (H : Heap) (locs : List Loc) (ls : Array Slot), ZZT G s s0.2.2 H locs → lv_has ls 11 [(8, .int s0.2.1), (6, .long q40_3), (5, .int x5_40), (3, .long s0.1), (0, .ref (G.1 0)), (1, .int a1), (2, .int a2)] → W p l e rm_Md_worth s m args below meth c H locs 0 0 Q (F0 m 64 ls [])) (Ex := fun (q0 : Int64 × Int32 × Mem) => ∀ (H : Heap) (locs : List Loc) (ls : Array Slot), ZZT G s q0.2.2 H locs → lv_has ls 11 [(5, .int x5_40), (3, .long q0.1), (0, .ref (G.1 0)), (1, .int a1), (2, .int a2)] → W p l e rm_Md_worth s m args below meth c H locs 0 0 Q (F0 m 114 ls [])) (fun s0 x h hx => ?_) _ _ q40_4 hq15 (fun H locs ls hZ hl => ?_) _ _ _ hZ (lv_sub hl [0, 1, 2, 3, 4, 5, 6] rfl)
            · obtain ⟨x3_64, x8_64, M_64⟩ := s0
              replace h : p_Md_worth_L64 a1 q40_3 x3_64 x8_64 M_64 = some x := h
              unfold p_Md_worth_L64 at h
              intro H locs ls hZ hl
              replace hZ : ZZT G s M_64 H locs := hZ
              replace hl : lv_has ls 11 [(8, .int x8_64), (6, .long q40_3), (5, .int x5_40), (3, .long x3_64), (0, .ref (G.1 0)), (1, .int a1), (2, .int a2)] := hl
              refine lv_iload hx0 hb d_Md_worth_64 (lv_at hl 0 rfl) ?_
              refine lv_aload_n hx0 hb d_Md_worth_66 rfl (lv_at hl 4 rfl) ?_
              refine fg_Md_rows hx0 hb hts hown hZ d_Md_worth_67 ?_
              refine lv_icmp_gt (tgt := 114) hx0 hb d_Md_worth_70 (by decide) (fun c64_1 => ?_) (fun c64_1 => ?_)
              · replace h := (if_pos c64_1).symm.trans h
                obtain rfl := Option.some.inj h
                exact hx _ _ _ hZ (lv_sub hl [2, 3, 4, 5, 6] rfl)
              · replace h := (if_neg c64_1).symm.trans h
                refine lv_aload_n hx0 hb d_Md_worth_73 rfl (lv_at hl 4 rfl) ?_
                refine fg_Md_now hx0 hb hts hown hZ d_Md_worth_74 ?_
                refine lv_iload_n hx0 hb d_Md_worth_77 rfl (lv_at hl 5 rfl) ?_
                refine lv_aload_n hx0 hb d_Md_worth_78 rfl (lv_at hl 4 rfl) ?_
                refine fg_Md_items hx0 hb hts hown hZ d_Md_worth_79 ?_
                refine lv_bipush (v := (6 : Int32)) hx0 hb d_Md_worth_82 (by decide) ?_
                refine lv_iload hx0 hb d_Md_worth_84 (lv_at hl 0 rfl) ?_
                refine lv_imul hx0 hb d_Md_worth_86 ?_
                refine lv_iload_n hx0 hb d_Md_worth_87 rfl (lv_at hl 5 rfl) ?_
                refine lv_iadd hx0 hb d_Md_worth_88 ?_
                obtain ⟨hi64_2, h⟩ := chk_some h
                refine z_ialoadT (k := 10) hx0 hb hZ hi64_2 d_Md_worth_89 ?_
                obtain ⟨hi64_3, h⟩ := chk_some h
                refine z_iastoreT (k := 11) hx0 hb hZ hi64_3 d_Md_worth_90 (fun H locs hZ => ?_)
                obtain ⟨m64_4, em64_4, h⟩ := nm_some h
                rw [em64_4] at hZ
                refine lv_aload_n hx0 hb d_Md_worth_91 rfl (lv_at hl 4 rfl) ?_
                obtain ⟨q64_5, hc64_6, h⟩ := bnd_some h
                refine k_Md_Md_answerNow [] hx0 hb hml hts hown (c_Md_answerNow l G  m64_4 q64_5 hc64_6) hZ rfl rfl ⟨Nat.le_of_ble_eq_true rfl, Nat.le_of_ble_eq_true rfl⟩ hl.1 rfl (Nat.le_of_ble_eq_true rfl) d_Md_worth_92 (fun H locs hZ => ?_)
                refine lv_lload hx0 hb d_Md_worth_95 (lv_at hl 1 rfl) ?_
                refine lv_lsub hx0 hb d_Md_worth_97 ?_
                refine lv_lstore (lv' := [(9, .long (q64_5 - q40_3)), (8, .int x8_64), (6, .long q40_3), (5, .int x5_40), (3, .long x3_64), (0, .ref (G.1 0)), (1, .int a1), (2, .int a2)]) hx0 hb d_Md_worth_98 hl (by decide) rfl (fun ls hl => ?_)
                refine lv_lload_n hx0 hb d_Md_worth_100 rfl (lv_at hl 4 rfl) ?_
                refine lv_lload hx0 hb d_Md_worth_101 (lv_at hl 0 rfl) ?_
                refine lv_lload hx0 hb d_Md_worth_103 (lv_at hl 0 rfl) ?_
                refine lv_lmul hx0 hb d_Md_worth_105 ?_
                refine lv_ladd hx0 hb d_Md_worth_106 ?_
                refine lv_lstore_n (lv' := [(3, .long (x3_64 + ((q64_5 - q40_3) * (q64_5 - q40_3)))), (9, .long (q64_5 - q40_3)), (8, .int x8_64), (6, .long q40_3), (5, .int x5_40), (0, .ref (G.1 0)), (1, .int a1), (2, .int a2)]) hx0 hb d_Md_worth_107 rfl hl (by decide) rfl (fun ls hl => ?_)
                refine lv_iinc (v := (x8_64 + (1 : Int32))) (lv' := [(8, .int (x8_64 + (1 : Int32))), (3, .long (x3_64 + ((q64_5 - q40_3) * (q64_5 - q40_3)))), (9, .long (q64_5 - q40_3)), (6, .long q40_3), (5, .int x5_40), (0, .ref (G.1 0)), (1, .int a1), (2, .int a2)]) hx0 hb d_Md_worth_108 hl (k := 2) rfl rfl (by decide) rfl (fun ls hl => ?_)
                refine lv_goto (tgt := 64) hx0 hb d_Md_worth_111 (by decide) ?_
                obtain rfl := Option.some.inj h
                exact hx _ _ _ hZ (lv_sub hl [0, 3, 4, 1, 5, 6, 7] rfl)
            · replace hZ : ZZT G s q40_4.2.2 H locs := hZ
              replace hl : lv_has ls 11 [(5, .int x5_40), (3, .long q40_4.1), (0, .ref (G.1 0)), (1, .int a1), (2, .int a2)] := hl
              refine lv_iinc (v := (x5_40 + (1 : Int32))) (lv' := [(5, .int (x5_40 + (1 : Int32))), (3, .long q40_4.1), (0, .ref (G.1 0)), (1, .int a1), (2, .int a2)]) hx0 hb d_Md_worth_114 hl (k := 0) rfl rfl (by decide) rfl (fun ls hl => ?_)
              refine lv_goto (tgt := 40) hx0 hb d_Md_worth_117 (by decide) ?_
              obtain rfl := Option.some.inj h
              exact hx _ _ _ hZ (lv_sub hl [0, 1, 2, 3, 4] rfl)
        · replace hZ : ZZT G s q8.2.2 H locs := hZ
          replace hl : lv_has ls 11 [(3, .long q8.1), (0, .ref (G.1 0)), (2, .int a2)] := hl
          refine lv_lload_n hx0 hb d_Md_worth_120 rfl (lv_at hl 0 rfl) ?_
          refine lv_aload_n hx0 hb d_Md_worth_121 rfl (lv_at hl 1 rfl) ?_
          refine fg_Md_rows hx0 hb hts hown hZ d_Md_worth_122 ?_
          refine lv_i2l (v := Int32.toInt64 (q8.2.2.1 0 13)) hx0 hb d_Md_worth_125 rfl ?_
          refine lv_aload_n hx0 hb d_Md_worth_126 rfl (lv_at hl 1 rfl) ?_
          refine fg_Md_rows hx0 hb hts hown hZ d_Md_worth_127 ?_
          refine lv_i2l (v := Int32.toInt64 (q8.2.2.1 0 13)) hx0 hb d_Md_worth_130 rfl ?_
          refine lv_lmul hx0 hb d_Md_worth_131 ?_
          refine lv_iload_n hx0 hb d_Md_worth_132 rfl (lv_at hl 2 rfl) ?_
          obtain ⟨q9, hc10, h⟩ := bnd_some h
          refine k_Md_Md_part [.long q8.1, .long ((Int32.toInt64 (q8.2.2.1 0 13)) * (Int32.toInt64 (q8.2.2.1 0 13))), .int a2] hx0 hb hml hts hown (c_Md_part l G q8.1 ((Int32.toInt64 (q8.2.2.1 0 13)) * (Int32.toInt64 (q8.2.2.1 0 13))) a2 q8.2.2 q9 hc10) hZ rfl rfl ⟨Nat.le_of_ble_eq_true rfl, Nat.le_of_ble_eq_true rfl⟩ hl.1 rfl (Nat.le_of_ble_eq_true rfl) d_Md_worth_133 (fun H locs hZ => ?_)
          obtain rfl := Option.some.inj h
          exact z_lretT hx0 hb hr hZ hlocks hQ d_Md_worth_136
      · replace h := (if_neg c7).symm.trans h
        refine lv_lconst (v := (0 : Int64)) hx0 hb d_Md_worth_33 (by decide) ?_
        obtain rfl := Option.some.inj h
        exact z_lretT hx0 hb hr hZ hlocks hQ d_Md_worth_34
    · replace h := (if_pos c5).symm.trans h
      refine lv_ldc2 (v := (-1000000000000 : Int64)) hx0 hb hown (hts _ wk_Md_91) d_Md_worth_22 ?_
      obtain rfl := Option.some.inj h
      exact z_lretT hx0 hb hr hZ hlocks hQ d_Md_worth_25
abbrev rm_Md_findSizes : Room := ({ frames := 3, cells := 0, slots := 0, locals := 72 } : Room)
set_option maxHeartbeats 4000000 in
set_option maxRecDepth 100000 in
theorem c_Md_findSizes (l : Launch) (G : zG)  (M : Mem) (r : Mem) (h : p_Md_findSizes  M = some r) : MetZT l G y_Md_findSizes (Cond.code y_Md_findSizes b_Md_findSizes 4 none :: zws) rm_Md_findSizes [.ref (G.1 0)] M none r := by
  unfold p_Md_findSizes at h
  refine z_ofWT (lv := [(0, .ref (G.1 0))]) (by decide) (Nat.le_of_ble_eq_true rfl) rfl (fun p e R s m args below meth c Q ls F hl hZ => ?_)
  obtain ⟨hx0, hb, hml, hr, hts, hown, hlocks, rfl, hQ⟩ := F
  refine lv_iconst (v := (0 : Int32)) hx0 hb d_Md_findSizes_0 (by decide) ?_
  refine lv_istore_n (lv' := [(1, .int (0 : Int32)), (0, .ref (G.1 0))]) hx0 hb d_Md_findSizes_1 rfl hl (by decide) rfl (fun ls hl => ?_)
  obtain ⟨q1, hq2, h⟩ := bnd_some h
  refine W_itr (At := fun (s0 : Int32 × Mem) => ∀ (H : Heap) (locs : List Loc) (ls : Array Slot), ZZT G s s0.2 H locs → lv_has ls 4 [(1, .int s0.1), (0, .ref (G.1 0))] → W p l e rm_Md_findSizes s m args below meth c H locs 0 0 Q (F0 m 2 ls [])) (Ex := fun (q0 : Int32 × Mem) => ∀ (H : Heap) (locs : List Loc) (ls : Array Slot), ZZT G s q0.2 H locs → lv_has ls 4 [] → W p l e rm_Md_findSizes s m args below meth c H locs 0 0 Q (F0 m 56 ls [])) (fun s0 x h hx => ?_) _ _ q1 hq2 (fun H locs ls hZ hl => ?_) _ _ _ hZ (lv_sub hl [0, 1] rfl)
  · obtain ⟨x1_2, M_2⟩ := s0
    replace h : p_Md_findSizes_L2 x1_2 M_2 = some x := h
    unfold p_Md_findSizes_L2 at h
    intro H locs ls hZ hl
    replace hZ : ZZT G s M_2 H locs := hZ
    replace hl : lv_has ls 4 [(1, .int x1_2), (0, .ref (G.1 0))] := hl
    refine lv_iload_n hx0 hb d_Md_findSizes_2 rfl (lv_at hl 0 rfl) ?_
    refine lv_aload_n hx0 hb d_Md_findSizes_3 rfl (lv_at hl 1 rfl) ?_
    refine fg_Md_columns hx0 hb hts hown hZ d_Md_findSizes_4 ?_
    refine lv_icmp_ge (tgt := 56) hx0 hb d_Md_findSizes_7 (by decide) (fun c2_1 => ?_) (fun c2_1 => ?_)
    · replace h := (if_pos c2_1).symm.trans h
      obtain rfl := Option.some.inj h
      exact hx _ _ _ hZ (lv_sub hl [] rfl)
    · replace h := (if_neg c2_1).symm.trans h
      refine lv_aload_n hx0 hb d_Md_findSizes_10 rfl (lv_at hl 1 rfl) ?_
      refine lv_iload_n hx0 hb d_Md_findSizes_11 rfl (lv_at hl 0 rfl) ?_
      obtain ⟨q2_2, hc2_18, h⟩ := bnd_some h
      refine k_Md_Md_groupBits [.int x1_2] hx0 hb hml hts hown (c_Md_groupBits l G x1_2 M_2 q2_2 hc2_18) hZ rfl rfl ⟨Nat.le_of_ble_eq_true rfl, Nat.le_of_ble_eq_true rfl⟩ hl.1 rfl (Nat.le_of_ble_eq_true rfl) d_Md_findSizes_12 (fun H locs hZ => ?_)
      refine lv_if_ne (tgt := 22) hx0 hb d_Md_findSizes_15 (by decide) (fun c2_3 => ?_) (fun c2_3 => ?_)
      · replace h := (if_neg c2_3).symm.trans h
        refine lv_aload_n hx0 hb d_Md_findSizes_22 rfl (lv_at hl 1 rfl) ?_
        refine lv_aload_n hx0 hb d_Md_findSizes_23 rfl (lv_at hl 1 rfl) ?_
        refine lv_iload_n hx0 hb d_Md_findSizes_24 rfl (lv_at hl 0 rfl) ?_
        obtain ⟨q2_4, hc2_12, h⟩ := bnd_some h
        refine k_Md_Md_groupBits [.int x1_2] hx0 hb hml hts hown (c_Md_groupBits l G x1_2 M_2 q2_4 hc2_12) hZ rfl rfl ⟨Nat.le_of_ble_eq_true rfl, Nat.le_of_ble_eq_true rfl⟩ hl.1 rfl (Nat.le_of_ble_eq_true rfl) d_Md_findSizes_25 (fun H locs hZ => ?_)
        obtain ⟨q2_5, hc2_11, h⟩ := bnd_some h
        refine k_Md_Md_shareSum [.int q2_4] hx0 hb hml hts hown (c_Md_shareSum l G q2_4 M_2 q2_5 hc2_11) hZ rfl rfl ⟨Nat.le_of_ble_eq_true rfl, Nat.le_of_ble_eq_true rfl⟩ hl.1 rfl (Nat.le_of_ble_eq_true rfl) d_Md_findSizes_28 (fun H locs hZ => ?_)
        refine lv_lstore_n (lv' := [(2, .long q2_5.1), (1, .int x1_2), (0, .ref (G.1 0))]) hx0 hb d_Md_findSizes_31 rfl hl (by decide) rfl (fun ls hl => ?_)
        refine lv_aload_n hx0 hb d_Md_findSizes_32 rfl (lv_at hl 2 rfl) ?_
        refine fg_Md_sizes hx0 hb hts hown hZ d_Md_findSizes_33 ?_
        refine lv_iload_n hx0 hb d_Md_findSizes_36 rfl (lv_at hl 1 rfl) ?_
        refine lv_lload_n hx0 hb d_Md_findSizes_37 rfl (lv_at hl 0 rfl) ?_
        refine lv_lconst (v := (0 : Int64)) hx0 hb d_Md_findSizes_38 (by decide) ?_
        refine W.lcmp hx0 hb d_Md_findSizes_39 ?_
        refine lv_if_ge (tgt := 48) hx0 hb d_Md_findSizes_40 (by decide) (fun c2_6 => ?_) (fun c2_6 => ?_)
        · replace h := (if_pos c2_6).symm.trans h
          refine lv_lload_n hx0 hb d_Md_findSizes_48 rfl (lv_at hl 0 rfl) ?_
          obtain ⟨hi2_7, h⟩ := chk_some h
          refine z_lastoreT (k := 15) hx0 hb hZ hi2_7 d_Md_findSizes_49 (fun H locs hZ => ?_)
          obtain ⟨m2_8, em2_8, h⟩ := nm_some h
          rw [em2_8] at hZ
          refine lv_iinc (v := (x1_2 + (1 : Int32))) (lv' := [(1, .int (x1_2 + (1 : Int32))), (2, .long q2_5.1), (0, .ref (G.1 0))]) hx0 hb d_Md_findSizes_50 hl (k := 1) rfl rfl (by decide) rfl (fun ls hl => ?_)
          refine lv_goto (tgt := 2) hx0 hb d_Md_findSizes_53 (by decide) ?_
          obtain rfl := Option.some.inj h
          exact hx _ _ _ hZ (lv_sub hl [0, 2] rfl)
        · replace h := (if_neg c2_6).symm.trans h
          refine lv_lload_n hx0 hb d_Md_findSizes_43 rfl (lv_at hl 0 rfl) ?_
          refine lv_lneg hx0 hb d_Md_findSizes_44 ?_
          refine lv_goto (tgt := 49) hx0 hb d_Md_findSizes_45 (by decide) ?_
          obtain ⟨hi2_9, h⟩ := chk_some h
          refine z_lastoreT (k := 15) hx0 hb hZ hi2_9 d_Md_findSizes_49 (fun H locs hZ => ?_)
          obtain ⟨m2_10, em2_10, h⟩ := nm_some h
          rw [em2_10] at hZ
          refine lv_iinc (v := (x1_2 + (1 : Int32))) (lv' := [(1, .int (x1_2 + (1 : Int32))), (2, .long q2_5.1), (0, .ref (G.1 0))]) hx0 hb d_Md_findSizes_50 hl (k := 1) rfl rfl (by decide) rfl (fun ls hl => ?_)
          refine lv_goto (tgt := 2) hx0 hb d_Md_findSizes_53 (by decide) ?_
          obtain rfl := Option.some.inj h
          exact hx _ _ _ hZ (lv_sub hl [0, 2] rfl)
      · replace h := (if_pos c2_3).symm.trans h
        refine lv_lconst (v := (0 : Int64)) hx0 hb d_Md_findSizes_18 (by decide) ?_
        refine lv_goto (tgt := 31) hx0 hb d_Md_findSizes_19 (by decide) ?_
        refine lv_lstore_n (lv' := [(2, .long (0 : Int64)), (1, .int x1_2), (0, .ref (G.1 0))]) hx0 hb d_Md_findSizes_31 rfl hl (by decide) rfl (fun ls hl => ?_)
        refine lv_aload_n hx0 hb d_Md_findSizes_32 rfl (lv_at hl 2 rfl) ?_
        refine fg_Md_sizes hx0 hb hts hown hZ d_Md_findSizes_33 ?_
        refine lv_iload_n hx0 hb d_Md_findSizes_36 rfl (lv_at hl 1 rfl) ?_
        refine lv_lload_n hx0 hb d_Md_findSizes_37 rfl (lv_at hl 0 rfl) ?_
        refine lv_lconst (v := (0 : Int64)) hx0 hb d_Md_findSizes_38 (by decide) ?_
        refine W.lcmp hx0 hb d_Md_findSizes_39 ?_
        refine lv_if_ge (tgt := 48) hx0 hb d_Md_findSizes_40 (by decide) (fun c2_13 => ?_) (fun c2_13 => ?_)
        · replace h := (if_pos c2_13).symm.trans h
          refine lv_lload_n hx0 hb d_Md_findSizes_48 rfl (lv_at hl 0 rfl) ?_
          obtain ⟨hi2_14, h⟩ := chk_some h
          refine z_lastoreT (k := 15) hx0 hb hZ hi2_14 d_Md_findSizes_49 (fun H locs hZ => ?_)
          obtain ⟨m2_15, em2_15, h⟩ := nm_some h
          rw [em2_15] at hZ
          refine lv_iinc (v := (x1_2 + (1 : Int32))) (lv' := [(1, .int (x1_2 + (1 : Int32))), (2, .long (0 : Int64)), (0, .ref (G.1 0))]) hx0 hb d_Md_findSizes_50 hl (k := 1) rfl rfl (by decide) rfl (fun ls hl => ?_)
          refine lv_goto (tgt := 2) hx0 hb d_Md_findSizes_53 (by decide) ?_
          obtain rfl := Option.some.inj h
          exact hx _ _ _ hZ (lv_sub hl [0, 2] rfl)
        · replace h := (if_neg c2_13).symm.trans h
          refine lv_lload_n hx0 hb d_Md_findSizes_43 rfl (lv_at hl 0 rfl) ?_
          refine lv_lneg hx0 hb d_Md_findSizes_44 ?_
          refine lv_goto (tgt := 49) hx0 hb d_Md_findSizes_45 (by decide) ?_
          obtain ⟨hi2_16, h⟩ := chk_some h
          refine z_lastoreT (k := 15) hx0 hb hZ hi2_16 d_Md_findSizes_49 (fun H locs hZ => ?_)
          obtain ⟨m2_17, em2_17, h⟩ := nm_some h
          rw [em2_17] at hZ
          refine lv_iinc (v := (x1_2 + (1 : Int32))) (lv' := [(1, .int (x1_2 + (1 : Int32))), (2, .long (0 : Int64)), (0, .ref (G.1 0))]) hx0 hb d_Md_findSizes_50 hl (k := 1) rfl rfl (by decide) rfl (fun ls hl => ?_)
          refine lv_goto (tgt := 2) hx0 hb d_Md_findSizes_53 (by decide) ?_
          obtain rfl := Option.some.inj h
          exact hx _ _ _ hZ (lv_sub hl [0, 2] rfl)
  · replace hZ : ZZT G s q1.2 H locs := hZ
    replace hl : lv_has ls 4 [] := hl
    obtain rfl := Option.some.inj h
    exact z_vretT hx0 hb hr hZ hlocks hQ d_Md_findSizes_56
abbrev rm_Md_rank : Room := ({ frames := 4, cells := 0, slots := 0, locals := 95 } : Room)
set_option maxHeartbeats 4000000 in
set_option maxRecDepth 100000 in
theorem c_Md_rank (l : Launch) (G : zG) (a1 : Int32) (M : Mem) (r : Int32 × Mem) (h : p_Md_rank a1 M = some r) : MetZT l G y_Md_rank (Cond.code y_Md_rank b_Md_rank 7 (some .int) :: zws) rm_Md_rank [.ref (G.1 0), .int a1] M (some (.int r.1)) r.2 := by
  unfold p_Md_rank at h
  refine z_ofWT (lv := [(0, .ref (G.1 0)), (1, .int a1)]) (by decide) (Nat.le_of_ble_eq_true rfl) rfl (fun p e R s m args below meth c Q ls F hl hZ => ?_)
  obtain ⟨hx0, hb, hml, hr, hts, hown, hlocks, rfl, hQ⟩ := F
  refine lv_aload_n hx0 hb d_Md_rank_0 rfl (lv_at hl 0 rfl) ?_
  refine lv_iconst (v := (0 : Int32)) hx0 hb d_Md_rank_1 (by decide) ?_
  refine fp_Md_code hx0 hb hts hown hZ d_Md_rank_2 (fun H locs hZ => ?_)
  obtain ⟨m1, em1, h⟩ := nm_some h
  rw [em1] at hZ
  refine lv_aload_n hx0 hb d_Md_rank_5 rfl (lv_at hl 0 rfl) ?_
  refine lv_iconst (v := (0 : Int32)) hx0 hb d_Md_rank_6 (by decide) ?_
  refine lv_iconst (v := (0 : Int32)) hx0 hb d_Md_rank_7 (by decide) ?_
  obtain ⟨q2, hc12, h⟩ := bnd_some h
  refine k_Md_Md_listParts [.int (0 : Int32), .int (0 : Int32)] hx0 hb hml hts hown (c_Md_listParts l G (0 : Int32) (0 : Int32) m1 q2 hc12) hZ rfl rfl ⟨Nat.le_of_ble_eq_true rfl, Nat.le_of_ble_eq_true rfl⟩ hl.1 rfl (Nat.le_of_ble_eq_true rfl) d_Md_rank_8 (fun H locs hZ => ?_)
  refine lv_iload_n hx0 hb d_Md_rank_11 rfl (lv_at hl 1 rfl) ?_
  refine lv_iconst (v := (0 : Int32)) hx0 hb d_Md_rank_12 (by decide) ?_
  refine lv_aload_n hx0 hb d_Md_rank_13 rfl (lv_at hl 0 rfl) ?_
  refine fg_Md_many hx0 hb hts hown hZ d_Md_rank_14 ?_
  refine lv_iconst (v := (1 : Int32)) hx0 hb d_Md_rank_17 (by decide) ?_
  refine lv_isub hx0 hb d_Md_rank_18 ?_
  obtain ⟨q3, hc11, h⟩ := bnd_some h
  refine k_Md_Md_in [.int a1, .int (0 : Int32), .int ((q2.1 0 17) - (1 : Int32))] hx0 hb hml hts hown (c_Md_in l G a1 (0 : Int32) ((q2.1 0 17) - (1 : Int32)) q2 q3 hc11) hZ rfl rfl ⟨Nat.le_of_ble_eq_true rfl, Nat.le_of_ble_eq_true rfl⟩ hl.1 rfl (Nat.le_of_ble_eq_true rfl) d_Md_rank_19 (fun H locs hZ => ?_)
  refine lv_if_ne (tgt := 27) hx0 hb d_Md_rank_22 (by decide) (fun c4 => ?_) (fun c4 => ?_)
  · replace h := (if_neg c4).symm.trans h
    refine lv_aload_n hx0 hb d_Md_rank_27 rfl (lv_at hl 0 rfl) ?_
    refine fg_Md_rows hx0 hb hts hown hZ d_Md_rank_28 ?_
    refine lv_if_ne (tgt := 37) hx0 hb d_Md_rank_31 (by decide) (fun c5 => ?_) (fun c5 => ?_)
    · replace h := (if_neg c5).symm.trans h
      refine lv_aload_n hx0 hb d_Md_rank_37 rfl (lv_at hl 0 rfl) ?_
      obtain ⟨q6, hc10, h⟩ := bnd_some h
      refine k_Md_Md_sumAll [] hx0 hb hml hts hown (c_Md_sumAll l G  q2 q6 hc10) hZ rfl rfl ⟨Nat.le_of_ble_eq_true rfl, Nat.le_of_ble_eq_true rfl⟩ hl.1 rfl (Nat.le_of_ble_eq_true rfl) d_Md_rank_38 (fun H locs hZ => ?_)
      refine lv_aload_n hx0 hb d_Md_rank_41 rfl (lv_at hl 0 rfl) ?_
      obtain ⟨q7, hc9, h⟩ := bnd_some h
      refine k_Md_Md_findSizes [] hx0 hb hml hts hown (c_Md_findSizes l G  q6 q7 hc9) hZ rfl rfl ⟨Nat.le_of_ble_eq_true rfl, Nat.le_of_ble_eq_true rfl⟩ hl.1 rfl (Nat.le_of_ble_eq_true rfl) d_Md_rank_42 (fun H locs hZ => ?_)
      refine lv_iconst (v := (-1 : Int32)) hx0 hb d_Md_rank_45 (by decide) ?_
      refine lv_istore_n (lv' := [(2, .int (-1 : Int32)), (0, .ref (G.1 0)), (1, .int a1)]) hx0 hb d_Md_rank_46 rfl hl (by decide) rfl (fun ls hl => ?_)
      refine lv_iconst (v := (0 : Int32)) hx0 hb d_Md_rank_47 (by decide) ?_
      refine lv_istore_n (lv' := [(3, .int (0 : Int32)), (2, .int (-1 : Int32)), (0, .ref (G.1 0)), (1, .int a1)]) hx0 hb d_Md_rank_48 rfl hl (by decide) rfl (fun ls hl => ?_)
      obtain ⟨q8, hq13, h⟩ := bnd_some h
      refine W_itr (At := fun (s0 : Int32 × Int32) => ∀ (H : Heap) (locs : List Loc) (ls : Array Slot), ZZT G s q7 H locs → lv_has ls 7 [(3, .int s0.2), (2, .int s0.1), (0, .ref (G.1 0)), (1, .int a1)] → W p l e rm_Md_rank s m args below meth c H locs 0 0 Q (F0 m 49 ls [])) (Ex := fun (q0 : Int32 × Int32) => ∀ (H : Heap) (locs : List Loc) (ls : Array Slot), ZZT G s q7 H locs → lv_has ls 7 [(2, .int q0.1)] → W p l e rm_Md_rank s m args below meth c H locs 0 0 Q (F0 m 189 ls [])) (fun s0 x h hx => ?_) _ _ q8 hq13 (fun H locs ls hZ hl => ?_) _ _ _ hZ (lv_sub hl [0, 1, 2, 3] rfl)
      · obtain ⟨x2_49, x3_49⟩ := s0
        replace h : p_Md_rank_L49 a1 q7 x2_49 x3_49 = some x := h
        unfold p_Md_rank_L49 at h
        intro H locs ls hZ hl
        replace hZ : ZZT G s q7 H locs := hZ
        replace hl : lv_has ls 7 [(3, .int x3_49), (2, .int x2_49), (0, .ref (G.1 0)), (1, .int a1)] := hl
        refine lv_iload_n hx0 hb d_Md_rank_49 rfl (lv_at hl 0 rfl) ?_
        refine lv_aload_n hx0 hb d_Md_rank_50 rfl (lv_at hl 2 rfl) ?_
        refine fg_Md_columns hx0 hb hts hown hZ d_Md_rank_51 ?_
        refine lv_icmp_ge (tgt := 189) hx0 hb d_Md_rank_54 (by decide) (fun c49_1 => ?_) (fun c49_1 => ?_)
        · replace h := (if_pos c49_1).symm.trans h
          obtain rfl := Option.some.inj h
          exact hx _ _ _ hZ (lv_sub hl [1] rfl)
        · replace h := (if_neg c49_1).symm.trans h
          refine lv_iconst (v := (0 : Int32)) hx0 hb d_Md_rank_57 (by decide) ?_
          refine lv_istore (lv' := [(4, .int (0 : Int32)), (3, .int x3_49), (2, .int x2_49), (0, .ref (G.1 0)), (1, .int a1)]) hx0 hb d_Md_rank_58 hl (by decide) rfl (fun ls hl => ?_)
          refine lv_iconst (v := (0 : Int32)) hx0 hb d_Md_rank_60 (by decide) ?_
          refine lv_istore (lv' := [(5, .int (0 : Int32)), (4, .int (0 : Int32)), (3, .int x3_49), (2, .int x2_49), (0, .ref (G.1 0)), (1, .int a1)]) hx0 hb d_Md_rank_61 hl (by decide) rfl (fun ls hl => ?_)
          obtain ⟨q49_2, hq14, h⟩ := bnd_some h
          refine W_itr (At := fun (s0 : Int32 × Int32) => ∀ (H : Heap) (locs : List Loc) (ls : Array Slot), ZZT G s q7 H locs → lv_has ls 7 [(5, .int s0.2), (4, .int s0.1), (3, .int x3_49), (2, .int x2_49), (0, .ref (G.1 0)), (1, .int a1)] → W p l e rm_Md_rank s m args below meth c H locs 0 0 Q (F0 m 63 ls [])) (Ex := fun (q0 : Int32 × Int32) => ∀ (H : Heap) (locs : List Loc) (ls : Array Slot), ZZT G s q7 H locs → lv_has ls 7 [(4, .int q0.1), (3, .int x3_49), (2, .int x2_49), (0, .ref (G.1 0)), (1, .int a1)] → W p l e rm_Md_rank s m args below meth c H locs 0 0 Q (F0 m 163 ls [])) (fun s0 x h hx => ?_) _ _ q49_2 hq14 (fun H locs ls hZ hl => ?_) _ _ _ hZ (lv_sub hl [0, 1, 2, 3, 4, 5] rfl)
          · obtain ⟨x4_63, x5_63⟩ := s0
            replace h : p_Md_rank_L63 q7 x3_49 x4_63 x5_63 = some x := h
            unfold p_Md_rank_L63 at h
            intro H locs ls hZ hl
            replace hZ : ZZT G s q7 H locs := hZ
            replace hl : lv_has ls 7 [(5, .int x5_63), (4, .int x4_63), (3, .int x3_49), (2, .int x2_49), (0, .ref (G.1 0)), (1, .int a1)] := hl
            refine lv_iload hx0 hb d_Md_rank_63 (lv_at hl 0 rfl) ?_
            refine lv_aload_n hx0 hb d_Md_rank_65 rfl (lv_at hl 4 rfl) ?_
            refine fg_Md_columns hx0 hb hts hown hZ d_Md_rank_66 ?_
            refine lv_icmp_ge (tgt := 163) hx0 hb d_Md_rank_69 (by decide) (fun c63_1 => ?_) (fun c63_1 => ?_)
            · replace h := (if_pos c63_1).symm.trans h
              obtain rfl := Option.some.inj h
              exact hx _ _ _ hZ (lv_sub hl [1, 2, 3, 4, 5] rfl)
            · replace h := (if_neg c63_1).symm.trans h
              refine lv_aload_n hx0 hb d_Md_rank_72 rfl (lv_at hl 4 rfl) ?_
              refine lv_iload_n hx0 hb d_Md_rank_73 rfl (lv_at hl 2 rfl) ?_
              obtain ⟨q63_2, hc63_18, h⟩ := bnd_some h
              refine k_Md_Md_groupBits [.int x3_49] hx0 hb hml hts hown (c_Md_groupBits l G x3_49 q7 q63_2 hc63_18) hZ rfl rfl ⟨Nat.le_of_ble_eq_true rfl, Nat.le_of_ble_eq_true rfl⟩ hl.1 rfl (Nat.le_of_ble_eq_true rfl) d_Md_rank_74 (fun H locs hZ => ?_)
              refine lv_if_eq (tgt := 163) hx0 hb d_Md_rank_77 (by decide) (fun c63_3 => ?_) (fun c63_3 => ?_)
              · replace h := (if_pos c63_3).symm.trans h
                obtain rfl := Option.some.inj h
                exact hx _ _ _ hZ (lv_sub hl [1, 2, 3, 4, 5] rfl)
              · replace h := (if_neg c63_3).symm.trans h
                refine lv_iload hx0 hb d_Md_rank_80 (lv_at hl 0 rfl) ?_
                refine lv_iload_n hx0 hb d_Md_rank_82 rfl (lv_at hl 2 rfl) ?_
                refine lv_icmp_eq (tgt := 99) hx0 hb d_Md_rank_83 (by decide) (fun c63_4 => ?_) (fun c63_4 => ?_)
                · replace h := (if_pos c63_4).symm.trans h
                  refine lv_iconst (v := (0 : Int32)) hx0 hb d_Md_rank_99 (by decide) ?_
                  refine lv_istore (lv' := [(6, .int (0 : Int32)), (5, .int x5_63), (4, .int x4_63), (3, .int x3_49), (2, .int x2_49), (0, .ref (G.1 0)), (1, .int a1)]) hx0 hb d_Md_rank_100 hl (by decide) rfl (fun ls hl => ?_)
                  refine lv_iload hx0 hb d_Md_rank_102 (lv_at hl 2 rfl) ?_
                  refine lv_iload hx0 hb d_Md_rank_104 (lv_at hl 0 rfl) ?_
                  refine lv_if_eq (tgt := 153) hx0 hb d_Md_rank_106 (by decide) (fun c63_5 => ?_) (fun c63_5 => ?_)
                  · refine lv_iconst (v := (0 : Int32)) hx0 hb d_Md_rank_153 (by decide) ?_
                    refine lv_iadd hx0 hb d_Md_rank_154 ?_
                    refine lv_istore (lv' := [(4, .int (x4_63 + (0 : Int32))), (6, .int (0 : Int32)), (5, .int x5_63), (3, .int x3_49), (2, .int x2_49), (0, .ref (G.1 0)), (1, .int a1)]) hx0 hb d_Md_rank_155 hl (by decide) rfl (fun ls hl => ?_)
                    refine lv_iinc (v := (x5_63 + (1 : Int32))) (lv' := [(5, .int (x5_63 + (1 : Int32))), (4, .int (x4_63 + (0 : Int32))), (6, .int (0 : Int32)), (3, .int x3_49), (2, .int x2_49), (0, .ref (G.1 0)), (1, .int a1)]) hx0 hb d_Md_rank_157 hl (k := 2) rfl rfl (by decide) rfl (fun ls hl => ?_)
                    refine lv_goto (tgt := 63) hx0 hb d_Md_rank_160 (by decide) ?_
                    obtain rfl := Option.some.inj h
                    exact hx _ _ _ hZ (lv_sub hl [0, 1, 3, 4, 5, 6] rfl)
                  · exact absurd c63_5 (by decide)
                · replace h := (if_neg c63_4).symm.trans h
                  refine lv_aload_n hx0 hb d_Md_rank_86 rfl (lv_at hl 4 rfl) ?_
                  refine lv_iload hx0 hb d_Md_rank_87 (lv_at hl 0 rfl) ?_
                  obtain ⟨q63_6, hc63_17, h⟩ := bnd_some h
                  refine k_Md_Md_groupBits [.int x5_63] hx0 hb hml hts hown (c_Md_groupBits l G x5_63 q7 q63_6 hc63_17) hZ rfl rfl ⟨Nat.le_of_ble_eq_true rfl, Nat.le_of_ble_eq_true rfl⟩ hl.1 rfl (Nat.le_of_ble_eq_true rfl) d_Md_rank_89 (fun H locs hZ => ?_)
                  refine lv_if_eq (tgt := 99) hx0 hb d_Md_rank_92 (by decide) (fun c63_7 => ?_) (fun c63_7 => ?_)
                  · replace h := (if_pos c63_7).symm.trans h
                    refine lv_iconst (v := (0 : Int32)) hx0 hb d_Md_rank_99 (by decide) ?_
                    refine lv_istore (lv' := [(6, .int (0 : Int32)), (5, .int x5_63), (4, .int x4_63), (3, .int x3_49), (2, .int x2_49), (0, .ref (G.1 0)), (1, .int a1)]) hx0 hb d_Md_rank_100 hl (by decide) rfl (fun ls hl => ?_)
                    refine lv_iload hx0 hb d_Md_rank_102 (lv_at hl 2 rfl) ?_
                    refine lv_iload hx0 hb d_Md_rank_104 (lv_at hl 0 rfl) ?_
                    refine lv_if_eq (tgt := 153) hx0 hb d_Md_rank_106 (by decide) (fun c63_8 => ?_) (fun c63_8 => ?_)
                    · refine lv_iconst (v := (0 : Int32)) hx0 hb d_Md_rank_153 (by decide) ?_
                      refine lv_iadd hx0 hb d_Md_rank_154 ?_
                      refine lv_istore (lv' := [(4, .int (x4_63 + (0 : Int32))), (6, .int (0 : Int32)), (5, .int x5_63), (3, .int x3_49), (2, .int x2_49), (0, .ref (G.1 0)), (1, .int a1)]) hx0 hb d_Md_rank_155 hl (by decide) rfl (fun ls hl => ?_)
                      refine lv_iinc (v := (x5_63 + (1 : Int32))) (lv' := [(5, .int (x5_63 + (1 : Int32))), (4, .int (x4_63 + (0 : Int32))), (6, .int (0 : Int32)), (3, .int x3_49), (2, .int x2_49), (0, .ref (G.1 0)), (1, .int a1)]) hx0 hb d_Md_rank_157 hl (k := 2) rfl rfl (by decide) rfl (fun ls hl => ?_)
                      refine lv_goto (tgt := 63) hx0 hb d_Md_rank_160 (by decide) ?_
                      obtain rfl := Option.some.inj h
                      exact hx _ _ _ hZ (lv_sub hl [0, 1, 3, 4, 5, 6] rfl)
                    · exact absurd c63_8 (by decide)
                  · replace h := (if_neg c63_7).symm.trans h
                    refine lv_iconst (v := (1 : Int32)) hx0 hb d_Md_rank_95 (by decide) ?_
                    refine lv_goto (tgt := 100) hx0 hb d_Md_rank_96 (by decide) ?_
                    refine lv_istore (lv' := [(6, .int (1 : Int32)), (5, .int x5_63), (4, .int x4_63), (3, .int x3_49), (2, .int x2_49), (0, .ref (G.1 0)), (1, .int a1)]) hx0 hb d_Md_rank_100 hl (by decide) rfl (fun ls hl => ?_)
                    refine lv_iload hx0 hb d_Md_rank_102 (lv_at hl 2 rfl) ?_
                    refine lv_iload hx0 hb d_Md_rank_104 (lv_at hl 0 rfl) ?_
                    refine lv_if_eq (tgt := 153) hx0 hb d_Md_rank_106 (by decide) (fun c63_9 => ?_) (fun c63_9 => ?_)
                    · exact absurd c63_9 (by decide)
                    · refine lv_aload_n hx0 hb d_Md_rank_109 rfl (lv_at hl 5 rfl) ?_
                      refine fg_Md_sizes hx0 hb hts hown hZ d_Md_rank_110 ?_
                      refine lv_iload hx0 hb d_Md_rank_113 (lv_at hl 1 rfl) ?_
                      obtain ⟨hi63_10, h⟩ := chk_some h
                      refine z_laloadT (k := 15) hx0 hb hZ hi63_10 d_Md_rank_115 ?_
                      refine lv_aload_n hx0 hb d_Md_rank_116 rfl (lv_at hl 5 rfl) ?_
                      refine fg_Md_sizes hx0 hb hts hown hZ d_Md_rank_117 ?_
                      refine lv_iload_n hx0 hb d_Md_rank_120 rfl (lv_at hl 3 rfl) ?_
                      obtain ⟨hi63_11, h⟩ := chk_some h
                      refine z_laloadT (k := 15) hx0 hb hZ hi63_11 d_Md_rank_121 ?_
                      refine W.lcmp hx0 hb d_Md_rank_122 ?_
                      refine lv_if_gt (tgt := 149) hx0 hb d_Md_rank_123 (by decide) (fun c63_12 => ?_) (fun c63_12 => ?_)
                      · replace h := (if_pos c63_12).symm.trans h
                        refine lv_iconst (v := (1 : Int32)) hx0 hb d_Md_rank_149 (by decide) ?_
                        refine lv_goto (tgt := 154) hx0 hb d_Md_rank_150 (by decide) ?_
                        refine lv_iadd hx0 hb d_Md_rank_154 ?_
                        refine lv_istore (lv' := [(4, .int (x4_63 + (1 : Int32))), (6, .int (1 : Int32)), (5, .int x5_63), (3, .int x3_49), (2, .int x2_49), (0, .ref (G.1 0)), (1, .int a1)]) hx0 hb d_Md_rank_155 hl (by decide) rfl (fun ls hl => ?_)
                        refine lv_iinc (v := (x5_63 + (1 : Int32))) (lv' := [(5, .int (x5_63 + (1 : Int32))), (4, .int (x4_63 + (1 : Int32))), (6, .int (1 : Int32)), (3, .int x3_49), (2, .int x2_49), (0, .ref (G.1 0)), (1, .int a1)]) hx0 hb d_Md_rank_157 hl (k := 2) rfl rfl (by decide) rfl (fun ls hl => ?_)
                        refine lv_goto (tgt := 63) hx0 hb d_Md_rank_160 (by decide) ?_
                        obtain rfl := Option.some.inj h
                        exact hx _ _ _ hZ (lv_sub hl [0, 1, 3, 4, 5, 6] rfl)
                      · replace h := (if_neg c63_12).symm.trans h
                        refine lv_aload_n hx0 hb d_Md_rank_126 rfl (lv_at hl 5 rfl) ?_
                        refine fg_Md_sizes hx0 hb hts hown hZ d_Md_rank_127 ?_
                        refine lv_iload hx0 hb d_Md_rank_130 (lv_at hl 1 rfl) ?_
                        obtain ⟨hi63_13, h⟩ := chk_some h
                        refine z_laloadT (k := 15) hx0 hb hZ hi63_13 d_Md_rank_132 ?_
                        refine lv_aload_n hx0 hb d_Md_rank_133 rfl (lv_at hl 5 rfl) ?_
                        refine fg_Md_sizes hx0 hb hts hown hZ d_Md_rank_134 ?_
                        refine lv_iload_n hx0 hb d_Md_rank_137 rfl (lv_at hl 3 rfl) ?_
                        obtain ⟨hi63_14, h⟩ := chk_some h
                        refine z_laloadT (k := 15) hx0 hb hZ hi63_14 d_Md_rank_138 ?_
                        refine W.lcmp hx0 hb d_Md_rank_139 ?_
                        refine lv_if_ne (tgt := 153) hx0 hb d_Md_rank_140 (by decide) (fun c63_15 => ?_) (fun c63_15 => ?_)
                        · replace h := (if_neg c63_15).symm.trans h
                          refine lv_iconst (v := (0 : Int32)) hx0 hb d_Md_rank_153 (by decide) ?_
                          refine lv_iadd hx0 hb d_Md_rank_154 ?_
                          refine lv_istore (lv' := [(4, .int (x4_63 + (0 : Int32))), (6, .int (1 : Int32)), (5, .int x5_63), (3, .int x3_49), (2, .int x2_49), (0, .ref (G.1 0)), (1, .int a1)]) hx0 hb d_Md_rank_155 hl (by decide) rfl (fun ls hl => ?_)
                          refine lv_iinc (v := (x5_63 + (1 : Int32))) (lv' := [(5, .int (x5_63 + (1 : Int32))), (4, .int (x4_63 + (0 : Int32))), (6, .int (1 : Int32)), (3, .int x3_49), (2, .int x2_49), (0, .ref (G.1 0)), (1, .int a1)]) hx0 hb d_Md_rank_157 hl (k := 2) rfl rfl (by decide) rfl (fun ls hl => ?_)
                          refine lv_goto (tgt := 63) hx0 hb d_Md_rank_160 (by decide) ?_
                          obtain rfl := Option.some.inj h
                          exact hx _ _ _ hZ (lv_sub hl [0, 1, 3, 4, 5, 6] rfl)
                        · replace h := (if_pos c63_15).symm.trans h
                          refine lv_iload hx0 hb d_Md_rank_143 (lv_at hl 1 rfl) ?_
                          refine lv_iload_n hx0 hb d_Md_rank_145 rfl (lv_at hl 3 rfl) ?_
                          refine lv_icmp_ge (tgt := 153) hx0 hb d_Md_rank_146 (by decide) (fun c63_16 => ?_) (fun c63_16 => ?_)
                          · replace h := (if_pos c63_16).symm.trans h
                            refine lv_iconst (v := (0 : Int32)) hx0 hb d_Md_rank_153 (by decide) ?_
                            refine lv_iadd hx0 hb d_Md_rank_154 ?_
                            refine lv_istore (lv' := [(4, .int (x4_63 + (0 : Int32))), (6, .int (1 : Int32)), (5, .int x5_63), (3, .int x3_49), (2, .int x2_49), (0, .ref (G.1 0)), (1, .int a1)]) hx0 hb d_Md_rank_155 hl (by decide) rfl (fun ls hl => ?_)
                            refine lv_iinc (v := (x5_63 + (1 : Int32))) (lv' := [(5, .int (x5_63 + (1 : Int32))), (4, .int (x4_63 + (0 : Int32))), (6, .int (1 : Int32)), (3, .int x3_49), (2, .int x2_49), (0, .ref (G.1 0)), (1, .int a1)]) hx0 hb d_Md_rank_157 hl (k := 2) rfl rfl (by decide) rfl (fun ls hl => ?_)
                            refine lv_goto (tgt := 63) hx0 hb d_Md_rank_160 (by decide) ?_
                            obtain rfl := Option.some.inj h
                            exact hx _ _ _ hZ (lv_sub hl [0, 1, 3, 4, 5, 6] rfl)
                          · replace h := (if_neg c63_16).symm.trans h
                            refine lv_iconst (v := (1 : Int32)) hx0 hb d_Md_rank_149 (by decide) ?_
                            refine lv_goto (tgt := 154) hx0 hb d_Md_rank_150 (by decide) ?_
                            refine lv_iadd hx0 hb d_Md_rank_154 ?_
                            refine lv_istore (lv' := [(4, .int (x4_63 + (1 : Int32))), (6, .int (1 : Int32)), (5, .int x5_63), (3, .int x3_49), (2, .int x2_49), (0, .ref (G.1 0)), (1, .int a1)]) hx0 hb d_Md_rank_155 hl (by decide) rfl (fun ls hl => ?_)
                            refine lv_iinc (v := (x5_63 + (1 : Int32))) (lv' := [(5, .int (x5_63 + (1 : Int32))), (4, .int (x4_63 + (1 : Int32))), (6, .int (1 : Int32)), (3, .int x3_49), (2, .int x2_49), (0, .ref (G.1 0)), (1, .int a1)]) hx0 hb d_Md_rank_157 hl (k := 2) rfl rfl (by decide) rfl (fun ls hl => ?_)
                            refine lv_goto (tgt := 63) hx0 hb d_Md_rank_160 (by decide) ?_
                            obtain rfl := Option.some.inj h
                            exact hx _ _ _ hZ (lv_sub hl [0, 1, 3, 4, 5, 6] rfl)
          · replace hZ : ZZT G s q7 H locs := hZ
            replace hl : lv_has ls 7 [(4, .int q49_2.1), (3, .int x3_49), (2, .int x2_49), (0, .ref (G.1 0)), (1, .int a1)] := hl
            refine lv_aload_n hx0 hb d_Md_rank_163 rfl (lv_at hl 3 rfl) ?_
            refine lv_iload_n hx0 hb d_Md_rank_164 rfl (lv_at hl 1 rfl) ?_
            obtain ⟨q49_3, hc49_6, h⟩ := bnd_some h
            refine k_Md_Md_groupBits [.int x3_49] hx0 hb hml hts hown (c_Md_groupBits l G x3_49 q7 q49_3 hc49_6) hZ rfl rfl ⟨Nat.le_of_ble_eq_true rfl, Nat.le_of_ble_eq_true rfl⟩ hl.1 rfl (Nat.le_of_ble_eq_true rfl) d_Md_rank_165 (fun H locs hZ => ?_)
            refine lv_if_eq (tgt := 181) hx0 hb d_Md_rank_168 (by decide) (fun c49_4 => ?_) (fun c49_4 => ?_)
            · replace h := (if_pos c49_4).symm.trans h
              refine lv_iload_n hx0 hb d_Md_rank_181 rfl (lv_at hl 2 rfl) ?_
              refine lv_istore_n (lv' := [(2, .int x2_49), (4, .int q49_2.1), (3, .int x3_49), (0, .ref (G.1 0)), (1, .int a1)]) hx0 hb d_Md_rank_182 rfl hl (by decide) rfl (fun ls hl => ?_)
              refine lv_iinc (v := (x3_49 + (1 : Int32))) (lv' := [(3, .int (x3_49 + (1 : Int32))), (2, .int x2_49), (4, .int q49_2.1), (0, .ref (G.1 0)), (1, .int a1)]) hx0 hb d_Md_rank_183 hl (k := 2) rfl rfl (by decide) rfl (fun ls hl => ?_)
              refine lv_goto (tgt := 49) hx0 hb d_Md_rank_186 (by decide) ?_
              obtain rfl := Option.some.inj h
              exact hx _ _ _ hZ (lv_sub hl [0, 1, 3, 4] rfl)
            · replace h := (if_neg c49_4).symm.trans h
              refine lv_iload hx0 hb d_Md_rank_171 (lv_at hl 0 rfl) ?_
              refine lv_iload_n hx0 hb d_Md_rank_173 rfl (lv_at hl 4 rfl) ?_
              refine lv_icmp_ne (tgt := 181) hx0 hb d_Md_rank_174 (by decide) (fun c49_5 => ?_) (fun c49_5 => ?_)
              · replace h := (if_neg c49_5).symm.trans h
                refine lv_iload_n hx0 hb d_Md_rank_181 rfl (lv_at hl 2 rfl) ?_
                refine lv_istore_n (lv' := [(2, .int x2_49), (4, .int q49_2.1), (3, .int x3_49), (0, .ref (G.1 0)), (1, .int a1)]) hx0 hb d_Md_rank_182 rfl hl (by decide) rfl (fun ls hl => ?_)
                refine lv_iinc (v := (x3_49 + (1 : Int32))) (lv' := [(3, .int (x3_49 + (1 : Int32))), (2, .int x2_49), (4, .int q49_2.1), (0, .ref (G.1 0)), (1, .int a1)]) hx0 hb d_Md_rank_183 hl (k := 2) rfl rfl (by decide) rfl (fun ls hl => ?_)
                refine lv_goto (tgt := 49) hx0 hb d_Md_rank_186 (by decide) ?_
                obtain rfl := Option.some.inj h
                exact hx _ _ _ hZ (lv_sub hl [0, 1, 3, 4] rfl)
              · replace h := (if_pos c49_5).symm.trans h
                refine lv_iload_n hx0 hb d_Md_rank_177 rfl (lv_at hl 1 rfl) ?_
                refine lv_goto (tgt := 182) hx0 hb d_Md_rank_178 (by decide) ?_
                refine lv_istore_n (lv' := [(2, .int x3_49), (4, .int q49_2.1), (3, .int x3_49), (0, .ref (G.1 0)), (1, .int a1)]) hx0 hb d_Md_rank_182 rfl hl (by decide) rfl (fun ls hl => ?_)
                refine lv_iinc (v := (x3_49 + (1 : Int32))) (lv' := [(3, .int (x3_49 + (1 : Int32))), (2, .int x3_49), (4, .int q49_2.1), (0, .ref (G.1 0)), (1, .int a1)]) hx0 hb d_Md_rank_183 hl (k := 2) rfl rfl (by decide) rfl (fun ls hl => ?_)
                refine lv_goto (tgt := 49) hx0 hb d_Md_rank_186 (by decide) ?_
                obtain rfl := Option.some.inj h
                exact hx _ _ _ hZ (lv_sub hl [0, 1, 3, 4] rfl)
      · replace hZ : ZZT G s q7 H locs := hZ
        replace hl : lv_has ls 7 [(2, .int q8.1)] := hl
        refine lv_iload_n hx0 hb d_Md_rank_189 rfl (lv_at hl 0 rfl) ?_
        obtain rfl := Option.some.inj h
        exact z_iretT hx0 hb hr hZ hlocks hQ d_Md_rank_190
    · replace h := (if_pos c5).symm.trans h
      refine lv_bipush (v := (-3 : Int32)) hx0 hb d_Md_rank_34 (by decide) ?_
      obtain rfl := Option.some.inj h
      exact z_iretT hx0 hb hr hZ hlocks hQ d_Md_rank_36
  · replace h := (if_pos c4).symm.trans h
    refine lv_iconst (v := (-1 : Int32)) hx0 hb d_Md_rank_25 (by decide) ?_
    obtain rfl := Option.some.inj h
    exact z_iretT hx0 hb hr hZ hlocks hQ d_Md_rank_26
abbrev rm_Md_bar : Room := ({ frames := 2, cells := 0, slots := 0, locals := 43 } : Room)
set_option maxHeartbeats 4000000 in
set_option maxRecDepth 100000 in
theorem c_Md_bar (l : Launch) (G : zG) (a1 : Int32) (a2 : Int32) (M : Mem) (r : Int32 × Mem) (h : p_Md_bar a1 a2 M = some r) : MetZT l G y_Md_bar (Cond.code y_Md_bar b_Md_bar 4 (some .int) :: zws) rm_Md_bar [.ref (G.1 0), .int a1, .int a2] M (some (.int r.1)) r.2 := by
  unfold p_Md_bar at h
  refine z_ofWT (lv := [(0, .ref (G.1 0)), (1, .int a1), (2, .int a2)]) (by decide) (Nat.le_of_ble_eq_true rfl) rfl (fun p e R s m args below meth c Q ls F hl hZ => ?_)
  obtain ⟨hx0, hb, hml, hr, hts, hown, hlocks, rfl, hQ⟩ := F
  refine lv_aload_n hx0 hb d_Md_bar_0 rfl (lv_at hl 0 rfl) ?_
  refine lv_iconst (v := (0 : Int32)) hx0 hb d_Md_bar_1 (by decide) ?_
  refine fp_Md_code hx0 hb hts hown hZ d_Md_bar_2 (fun H locs hZ => ?_)
  obtain ⟨m1, em1, h⟩ := nm_some h
  rw [em1] at hZ
  refine lv_aload_n hx0 hb d_Md_bar_5 rfl (lv_at hl 0 rfl) ?_
  refine lv_iload_n hx0 hb d_Md_bar_6 rfl (lv_at hl 1 rfl) ?_
  obtain ⟨q2, hc10, h⟩ := bnd_some h
  refine k_Md_Md_isColumn [.int a1] hx0 hb hml hts hown (c_Md_isColumn l G a1 m1 q2 hc10) hZ rfl rfl ⟨Nat.le_of_ble_eq_true rfl, Nat.le_of_ble_eq_true rfl⟩ hl.1 rfl (Nat.le_of_ble_eq_true rfl) d_Md_bar_7 (fun H locs hZ => ?_)
  refine lv_if_ne (tgt := 15) hx0 hb d_Md_bar_10 (by decide) (fun c3 => ?_) (fun c3 => ?_)
  · replace h := (if_neg c3).symm.trans h
    refine lv_aload_n hx0 hb d_Md_bar_15 rfl (lv_at hl 0 rfl) ?_
    refine fg_Md_barred hx0 hb hts hown hZ d_Md_bar_16 ?_
    refine lv_iload_n hx0 hb d_Md_bar_19 rfl (lv_at hl 1 rfl) ?_
    obtain ⟨hi4, h⟩ := chk_some h
    refine z_baloadT (k := 9) hx0 hb hZ hi4 d_Md_bar_20 ?_
    refine lv_if_eq (tgt := 28) hx0 hb d_Md_bar_21 (by decide) (fun c5 => ?_) (fun c5 => ?_)
    · replace h := (if_pos c5).symm.trans h
      refine lv_iconst (v := (0 : Int32)) hx0 hb d_Md_bar_28 (by decide) ?_
      refine lv_istore_n (lv' := [(3, .int (0 : Int32)), (0, .ref (G.1 0)), (1, .int a1), (2, .int a2)]) hx0 hb d_Md_bar_29 rfl hl (by decide) rfl (fun ls hl => ?_)
      refine lv_aload_n hx0 hb d_Md_bar_30 rfl (lv_at hl 1 rfl) ?_
      refine fg_Md_barred hx0 hb hts hown hZ d_Md_bar_31 ?_
      refine lv_iload_n hx0 hb d_Md_bar_34 rfl (lv_at hl 2 rfl) ?_
      refine lv_iload_n hx0 hb d_Md_bar_35 rfl (lv_at hl 3 rfl) ?_
      obtain ⟨hi6, h⟩ := chk_some h
      refine z_bastoreT (k := 9) hx0 hb hZ hi6 d_Md_bar_36 (fun H locs hZ => ?_)
      obtain ⟨m7, em7, h⟩ := nm_some h
      rw [em7] at hZ
      refine lv_iload_n hx0 hb d_Md_bar_37 rfl (lv_at hl 0 rfl) ?_
      obtain rfl := Option.some.inj h
      exact z_iretT hx0 hb hr hZ hlocks hQ d_Md_bar_38
    · replace h := (if_neg c5).symm.trans h
      refine lv_iconst (v := (1 : Int32)) hx0 hb d_Md_bar_24 (by decide) ?_
      refine lv_goto (tgt := 29) hx0 hb d_Md_bar_25 (by decide) ?_
      refine lv_istore_n (lv' := [(3, .int (1 : Int32)), (0, .ref (G.1 0)), (1, .int a1), (2, .int a2)]) hx0 hb d_Md_bar_29 rfl hl (by decide) rfl (fun ls hl => ?_)
      refine lv_aload_n hx0 hb d_Md_bar_30 rfl (lv_at hl 1 rfl) ?_
      refine fg_Md_barred hx0 hb hts hown hZ d_Md_bar_31 ?_
      refine lv_iload_n hx0 hb d_Md_bar_34 rfl (lv_at hl 2 rfl) ?_
      refine lv_iload_n hx0 hb d_Md_bar_35 rfl (lv_at hl 3 rfl) ?_
      obtain ⟨hi8, h⟩ := chk_some h
      refine z_bastoreT (k := 9) hx0 hb hZ hi8 d_Md_bar_36 (fun H locs hZ => ?_)
      obtain ⟨m9, em9, h⟩ := nm_some h
      rw [em9] at hZ
      refine lv_iload_n hx0 hb d_Md_bar_37 rfl (lv_at hl 0 rfl) ?_
      obtain rfl := Option.some.inj h
      exact z_iretT hx0 hb hr hZ hlocks hQ d_Md_bar_38
  · replace h := (if_pos c3).symm.trans h
    refine lv_iconst (v := (-1 : Int32)) hx0 hb d_Md_bar_13 (by decide) ?_
    obtain rfl := Option.some.inj h
    exact z_iretT hx0 hb hr hZ hlocks hQ d_Md_bar_14
abbrev rm_Md_hold : Room := ({ frames := 0, cells := 0, slots := 0, locals := 0 } : Room)
set_option maxHeartbeats 4000000 in
set_option maxRecDepth 100000 in
theorem c_Md_hold (l : Launch) (G : zG) (a1 : Int32) (M : Mem) (r : Mem) (h : p_Md_hold a1 M = some r) : MetZT l G y_Md_hold (Cond.code y_Md_hold b_Md_hold 7 none :: zws) rm_Md_hold [.ref (G.1 0), .int a1] M none r := by
  unfold p_Md_hold at h
  refine z_ofWT (lv := [(0, .ref (G.1 0)), (1, .int a1)]) (by decide) (Nat.le_of_ble_eq_true rfl) rfl (fun p e R s m args below meth c Q ls F hl hZ => ?_)
  obtain ⟨hx0, hb, hml, hr, hts, hown, hlocks, rfl, hQ⟩ := F
  refine lv_iconst (v := (0 : Int32)) hx0 hb d_Md_hold_0 (by decide) ?_
  refine lv_istore_n (lv' := [(2, .int (0 : Int32)), (0, .ref (G.1 0)), (1, .int a1)]) hx0 hb d_Md_hold_1 rfl hl (by decide) rfl (fun ls hl => ?_)
  refine lv_iconst (v := (0 : Int32)) hx0 hb d_Md_hold_2 (by decide) ?_
  refine lv_istore_n (lv' := [(3, .int (0 : Int32)), (2, .int (0 : Int32)), (0, .ref (G.1 0)), (1, .int a1)]) hx0 hb d_Md_hold_3 rfl hl (by decide) rfl (fun ls hl => ?_)
  refine lv_iconst (v := (0 : Int32)) hx0 hb d_Md_hold_4 (by decide) ?_
  refine lv_istore (lv' := [(4, .int (0 : Int32)), (3, .int (0 : Int32)), (2, .int (0 : Int32)), (0, .ref (G.1 0)), (1, .int a1)]) hx0 hb d_Md_hold_5 hl (by decide) rfl (fun ls hl => ?_)
  refine lv_iconst (v := (0 : Int32)) hx0 hb d_Md_hold_7 (by decide) ?_
  refine lv_istore (lv' := [(5, .int (0 : Int32)), (4, .int (0 : Int32)), (3, .int (0 : Int32)), (2, .int (0 : Int32)), (0, .ref (G.1 0)), (1, .int a1)]) hx0 hb d_Md_hold_8 hl (by decide) rfl (fun ls hl => ?_)
  obtain ⟨q1, hq20, h⟩ := bnd_some h
  refine W_itr (At := fun (s0 : Int32 × Int32 × Int32 × Int32) => ∀ (H : Heap) (locs : List Loc) (ls : Array Slot), ZZT G s M H locs → lv_has ls 7 [(5, .int s0.2.2.2), (4, .int s0.2.2.1), (3, .int s0.2.1), (2, .int s0.1), (0, .ref (G.1 0)), (1, .int a1)] → W p l e rm_Md_hold s m args below meth c H locs 0 0 Q (F0 m 10 ls [])) (Ex := fun (q0 : Int32 × Int32 × Int32 × Int32) => ∀ (H : Heap) (locs : List Loc) (ls : Array Slot), ZZT G s M H locs → lv_has ls 7 [(4, .int q0.2.2.1), (3, .int q0.2.1), (2, .int q0.1), (0, .ref (G.1 0)), (1, .int a1)] → W p l e rm_Md_hold s m args below meth c H locs 0 0 Q (F0 m 98 ls [])) (fun s0 x h hx => ?_) _ _ q1 hq20 (fun H locs ls hZ hl => ?_) _ _ _ hZ (lv_sub hl [0, 1, 2, 3, 4, 5] rfl)
  · obtain ⟨x2_10, x3_10, x4_10, x5_10⟩ := s0
    replace h : p_Md_hold_L10 M x2_10 x3_10 x4_10 x5_10 = some x := h
    unfold p_Md_hold_L10 at h
    intro H locs ls hZ hl
    replace hZ : ZZT G s M H locs := hZ
    replace hl : lv_has ls 7 [(5, .int x5_10), (4, .int x4_10), (3, .int x3_10), (2, .int x2_10), (0, .ref (G.1 0)), (1, .int a1)] := hl
    refine lv_iload hx0 hb d_Md_hold_10 (lv_at hl 0 rfl) ?_
    refine lv_aload_n hx0 hb d_Md_hold_12 rfl (lv_at hl 4 rfl) ?_
    refine fg_Md_columns hx0 hb hts hown hZ d_Md_hold_13 ?_
    refine lv_icmp_ge (tgt := 98) hx0 hb d_Md_hold_16 (by decide) (fun c10_1 => ?_) (fun c10_1 => ?_)
    · replace h := (if_pos c10_1).symm.trans h
      obtain rfl := Option.some.inj h
      exact hx _ _ _ hZ (lv_sub hl [1, 2, 3, 4, 5] rfl)
    · replace h := (if_neg c10_1).symm.trans h
      refine lv_aload_n hx0 hb d_Md_hold_19 rfl (lv_at hl 4 rfl) ?_
      refine fg_Md_now hx0 hb hts hown hZ d_Md_hold_20 ?_
      refine lv_iload hx0 hb d_Md_hold_23 (lv_at hl 0 rfl) ?_
      obtain ⟨hi10_2, h⟩ := chk_some h
      refine z_ialoadT (k := 11) hx0 hb hZ hi10_2 d_Md_hold_25 ?_
      refine lv_aload_n hx0 hb d_Md_hold_26 rfl (lv_at hl 4 rfl) ?_
      refine fg_Md_items hx0 hb hts hown hZ d_Md_hold_27 ?_
      refine lv_iload hx0 hb d_Md_hold_30 (lv_at hl 0 rfl) ?_
      obtain ⟨hi10_3, h⟩ := chk_some h
      refine z_ialoadT (k := 10) hx0 hb hZ hi10_3 d_Md_hold_32 ?_
      refine lv_isub hx0 hb d_Md_hold_33 ?_
      refine lv_istore (lv' := [(6, .int ((M.1 11 (Int32.toNatClampNeg x5_10)) - (M.1 10 (Int32.toNatClampNeg x5_10)))), (5, .int x5_10), (4, .int x4_10), (3, .int x3_10), (2, .int x2_10), (0, .ref (G.1 0)), (1, .int a1)]) hx0 hb d_Md_hold_34 hl (by decide) rfl (fun ls hl => ?_)
      refine lv_iload_n hx0 hb d_Md_hold_36 rfl (lv_at hl 4 rfl) ?_
      refine lv_iload hx0 hb d_Md_hold_37 (lv_at hl 0 rfl) ?_
      refine lv_if_eq (tgt := 46) hx0 hb d_Md_hold_39 (by decide) (fun c10_4 => ?_) (fun c10_4 => ?_)
      · replace h := (if_pos c10_4).symm.trans h
        refine lv_iconst (v := (0 : Int32)) hx0 hb d_Md_hold_46 (by decide) ?_
        refine lv_iadd hx0 hb d_Md_hold_47 ?_
        refine lv_istore_n (lv' := [(2, .int (x2_10 + (0 : Int32))), (6, .int ((M.1 11 (Int32.toNatClampNeg x5_10)) - (M.1 10 (Int32.toNatClampNeg x5_10)))), (5, .int x5_10), (4, .int x4_10), (3, .int x3_10), (0, .ref (G.1 0)), (1, .int a1)]) hx0 hb d_Md_hold_48 rfl hl (by decide) rfl (fun ls hl => ?_)
        refine lv_iload_n hx0 hb d_Md_hold_49 rfl (lv_at hl 4 rfl) ?_
        refine lv_iload hx0 hb d_Md_hold_50 (lv_at hl 1 rfl) ?_
        refine lv_if_ge (tgt := 61) hx0 hb d_Md_hold_52 (by decide) (fun c10_5 => ?_) (fun c10_5 => ?_)
        · replace h := (if_pos c10_5).symm.trans h
          refine lv_iload hx0 hb d_Md_hold_61 (lv_at hl 1 rfl) ?_
          refine lv_iadd hx0 hb d_Md_hold_63 ?_
          refine lv_istore_n (lv' := [(3, .int (x3_10 + ((M.1 11 (Int32.toNatClampNeg x5_10)) - (M.1 10 (Int32.toNatClampNeg x5_10))))), (2, .int (x2_10 + (0 : Int32))), (6, .int ((M.1 11 (Int32.toNatClampNeg x5_10)) - (M.1 10 (Int32.toNatClampNeg x5_10)))), (5, .int x5_10), (4, .int x4_10), (0, .ref (G.1 0)), (1, .int a1)]) hx0 hb d_Md_hold_64 rfl hl (by decide) rfl (fun ls hl => ?_)
          refine lv_iload hx0 hb d_Md_hold_65 (lv_at hl 4 rfl) ?_
          refine lv_if_ne (tgt := 88) hx0 hb d_Md_hold_67 (by decide) (fun c10_6 => ?_) (fun c10_6 => ?_)
          · replace h := (if_neg c10_6).symm.trans h
            refine lv_iload hx0 hb d_Md_hold_88 (lv_at hl 4 rfl) ?_
            refine lv_istore (lv' := [(4, .int x4_10), (3, .int (x3_10 + ((M.1 11 (Int32.toNatClampNeg x5_10)) - (M.1 10 (Int32.toNatClampNeg x5_10))))), (2, .int (x2_10 + (0 : Int32))), (6, .int ((M.1 11 (Int32.toNatClampNeg x5_10)) - (M.1 10 (Int32.toNatClampNeg x5_10)))), (5, .int x5_10), (0, .ref (G.1 0)), (1, .int a1)]) hx0 hb d_Md_hold_90 hl (by decide) rfl (fun ls hl => ?_)
            refine lv_iinc (v := (x5_10 + (1 : Int32))) (lv' := [(5, .int (x5_10 + (1 : Int32))), (4, .int x4_10), (3, .int (x3_10 + ((M.1 11 (Int32.toNatClampNeg x5_10)) - (M.1 10 (Int32.toNatClampNeg x5_10))))), (2, .int (x2_10 + (0 : Int32))), (6, .int ((M.1 11 (Int32.toNatClampNeg x5_10)) - (M.1 10 (Int32.toNatClampNeg x5_10)))), (0, .ref (G.1 0)), (1, .int a1)]) hx0 hb d_Md_hold_92 hl (k := 4) rfl rfl (by decide) rfl (fun ls hl => ?_)
            refine lv_goto (tgt := 10) hx0 hb d_Md_hold_95 (by decide) ?_
            obtain rfl := Option.some.inj h
            exact hx _ _ _ hZ (lv_sub hl [0, 1, 2, 3, 5, 6] rfl)
          · replace h := (if_pos c10_6).symm.trans h
            refine lv_aload_n hx0 hb d_Md_hold_70 rfl (lv_at hl 5 rfl) ?_
            refine fg_Md_now hx0 hb hts hown hZ d_Md_hold_71 ?_
            refine lv_iload hx0 hb d_Md_hold_74 (lv_at hl 3 rfl) ?_
            obtain ⟨hi10_7, h⟩ := chk_some h
            refine z_ialoadT (k := 11) hx0 hb hZ hi10_7 d_Md_hold_76 ?_
            refine lv_aload_n hx0 hb d_Md_hold_77 rfl (lv_at hl 5 rfl) ?_
            refine fg_Md_best hx0 hb hts hown hZ d_Md_hold_78 ?_
            refine lv_iload hx0 hb d_Md_hold_81 (lv_at hl 3 rfl) ?_
            obtain ⟨hi10_8, h⟩ := chk_some h
            refine z_ialoadT (k := 17) hx0 hb hZ hi10_8 d_Md_hold_83 ?_
            refine lv_isub hx0 hb d_Md_hold_84 ?_
            refine lv_goto (tgt := 90) hx0 hb d_Md_hold_85 (by decide) ?_
            refine lv_istore (lv' := [(4, .int ((M.1 11 (Int32.toNatClampNeg x5_10)) - (M.1 17 (Int32.toNatClampNeg x5_10)))), (3, .int (x3_10 + ((M.1 11 (Int32.toNatClampNeg x5_10)) - (M.1 10 (Int32.toNatClampNeg x5_10))))), (2, .int (x2_10 + (0 : Int32))), (6, .int ((M.1 11 (Int32.toNatClampNeg x5_10)) - (M.1 10 (Int32.toNatClampNeg x5_10)))), (5, .int x5_10), (0, .ref (G.1 0)), (1, .int a1)]) hx0 hb d_Md_hold_90 hl (by decide) rfl (fun ls hl => ?_)
            refine lv_iinc (v := (x5_10 + (1 : Int32))) (lv' := [(5, .int (x5_10 + (1 : Int32))), (4, .int ((M.1 11 (Int32.toNatClampNeg x5_10)) - (M.1 17 (Int32.toNatClampNeg x5_10)))), (3, .int (x3_10 + ((M.1 11 (Int32.toNatClampNeg x5_10)) - (M.1 10 (Int32.toNatClampNeg x5_10))))), (2, .int (x2_10 + (0 : Int32))), (6, .int ((M.1 11 (Int32.toNatClampNeg x5_10)) - (M.1 10 (Int32.toNatClampNeg x5_10)))), (0, .ref (G.1 0)), (1, .int a1)]) hx0 hb d_Md_hold_92 hl (k := 4) rfl rfl (by decide) rfl (fun ls hl => ?_)
            refine lv_goto (tgt := 10) hx0 hb d_Md_hold_95 (by decide) ?_
            obtain rfl := Option.some.inj h
            exact hx _ _ _ hZ (lv_sub hl [0, 1, 2, 3, 5, 6] rfl)
        · replace h := (if_neg c10_5).symm.trans h
          refine lv_iload hx0 hb d_Md_hold_55 (lv_at hl 1 rfl) ?_
          refine lv_ineg hx0 hb d_Md_hold_57 ?_
          refine lv_goto (tgt := 63) hx0 hb d_Md_hold_58 (by decide) ?_
          refine lv_iadd hx0 hb d_Md_hold_63 ?_
          refine lv_istore_n (lv' := [(3, .int (x3_10 + (-((M.1 11 (Int32.toNatClampNeg x5_10)) - (M.1 10 (Int32.toNatClampNeg x5_10)))))), (2, .int (x2_10 + (0 : Int32))), (6, .int ((M.1 11 (Int32.toNatClampNeg x5_10)) - (M.1 10 (Int32.toNatClampNeg x5_10)))), (5, .int x5_10), (4, .int x4_10), (0, .ref (G.1 0)), (1, .int a1)]) hx0 hb d_Md_hold_64 rfl hl (by decide) rfl (fun ls hl => ?_)
          refine lv_iload hx0 hb d_Md_hold_65 (lv_at hl 4 rfl) ?_
          refine lv_if_ne (tgt := 88) hx0 hb d_Md_hold_67 (by decide) (fun c10_9 => ?_) (fun c10_9 => ?_)
          · replace h := (if_neg c10_9).symm.trans h
            refine lv_iload hx0 hb d_Md_hold_88 (lv_at hl 4 rfl) ?_
            refine lv_istore (lv' := [(4, .int x4_10), (3, .int (x3_10 + (-((M.1 11 (Int32.toNatClampNeg x5_10)) - (M.1 10 (Int32.toNatClampNeg x5_10)))))), (2, .int (x2_10 + (0 : Int32))), (6, .int ((M.1 11 (Int32.toNatClampNeg x5_10)) - (M.1 10 (Int32.toNatClampNeg x5_10)))), (5, .int x5_10), (0, .ref (G.1 0)), (1, .int a1)]) hx0 hb d_Md_hold_90 hl (by decide) rfl (fun ls hl => ?_)
            refine lv_iinc (v := (x5_10 + (1 : Int32))) (lv' := [(5, .int (x5_10 + (1 : Int32))), (4, .int x4_10), (3, .int (x3_10 + (-((M.1 11 (Int32.toNatClampNeg x5_10)) - (M.1 10 (Int32.toNatClampNeg x5_10)))))), (2, .int (x2_10 + (0 : Int32))), (6, .int ((M.1 11 (Int32.toNatClampNeg x5_10)) - (M.1 10 (Int32.toNatClampNeg x5_10)))), (0, .ref (G.1 0)), (1, .int a1)]) hx0 hb d_Md_hold_92 hl (k := 4) rfl rfl (by decide) rfl (fun ls hl => ?_)
            refine lv_goto (tgt := 10) hx0 hb d_Md_hold_95 (by decide) ?_
            obtain rfl := Option.some.inj h
            exact hx _ _ _ hZ (lv_sub hl [0, 1, 2, 3, 5, 6] rfl)
          · replace h := (if_pos c10_9).symm.trans h
            refine lv_aload_n hx0 hb d_Md_hold_70 rfl (lv_at hl 5 rfl) ?_
            refine fg_Md_now hx0 hb hts hown hZ d_Md_hold_71 ?_
            refine lv_iload hx0 hb d_Md_hold_74 (lv_at hl 3 rfl) ?_
            obtain ⟨hi10_10, h⟩ := chk_some h
            refine z_ialoadT (k := 11) hx0 hb hZ hi10_10 d_Md_hold_76 ?_
            refine lv_aload_n hx0 hb d_Md_hold_77 rfl (lv_at hl 5 rfl) ?_
            refine fg_Md_best hx0 hb hts hown hZ d_Md_hold_78 ?_
            refine lv_iload hx0 hb d_Md_hold_81 (lv_at hl 3 rfl) ?_
            obtain ⟨hi10_11, h⟩ := chk_some h
            refine z_ialoadT (k := 17) hx0 hb hZ hi10_11 d_Md_hold_83 ?_
            refine lv_isub hx0 hb d_Md_hold_84 ?_
            refine lv_goto (tgt := 90) hx0 hb d_Md_hold_85 (by decide) ?_
            refine lv_istore (lv' := [(4, .int ((M.1 11 (Int32.toNatClampNeg x5_10)) - (M.1 17 (Int32.toNatClampNeg x5_10)))), (3, .int (x3_10 + (-((M.1 11 (Int32.toNatClampNeg x5_10)) - (M.1 10 (Int32.toNatClampNeg x5_10)))))), (2, .int (x2_10 + (0 : Int32))), (6, .int ((M.1 11 (Int32.toNatClampNeg x5_10)) - (M.1 10 (Int32.toNatClampNeg x5_10)))), (5, .int x5_10), (0, .ref (G.1 0)), (1, .int a1)]) hx0 hb d_Md_hold_90 hl (by decide) rfl (fun ls hl => ?_)
            refine lv_iinc (v := (x5_10 + (1 : Int32))) (lv' := [(5, .int (x5_10 + (1 : Int32))), (4, .int ((M.1 11 (Int32.toNatClampNeg x5_10)) - (M.1 17 (Int32.toNatClampNeg x5_10)))), (3, .int (x3_10 + (-((M.1 11 (Int32.toNatClampNeg x5_10)) - (M.1 10 (Int32.toNatClampNeg x5_10)))))), (2, .int (x2_10 + (0 : Int32))), (6, .int ((M.1 11 (Int32.toNatClampNeg x5_10)) - (M.1 10 (Int32.toNatClampNeg x5_10)))), (0, .ref (G.1 0)), (1, .int a1)]) hx0 hb d_Md_hold_92 hl (k := 4) rfl rfl (by decide) rfl (fun ls hl => ?_)
            refine lv_goto (tgt := 10) hx0 hb d_Md_hold_95 (by decide) ?_
            obtain rfl := Option.some.inj h
            exact hx _ _ _ hZ (lv_sub hl [0, 1, 2, 3, 5, 6] rfl)
      · replace h := (if_neg c10_4).symm.trans h
        refine lv_iconst (v := (1 : Int32)) hx0 hb d_Md_hold_42 (by decide) ?_
        refine lv_goto (tgt := 47) hx0 hb d_Md_hold_43 (by decide) ?_
        refine lv_iadd hx0 hb d_Md_hold_47 ?_
        refine lv_istore_n (lv' := [(2, .int (x2_10 + (1 : Int32))), (6, .int ((M.1 11 (Int32.toNatClampNeg x5_10)) - (M.1 10 (Int32.toNatClampNeg x5_10)))), (5, .int x5_10), (4, .int x4_10), (3, .int x3_10), (0, .ref (G.1 0)), (1, .int a1)]) hx0 hb d_Md_hold_48 rfl hl (by decide) rfl (fun ls hl => ?_)
        refine lv_iload_n hx0 hb d_Md_hold_49 rfl (lv_at hl 4 rfl) ?_
        refine lv_iload hx0 hb d_Md_hold_50 (lv_at hl 1 rfl) ?_
        refine lv_if_ge (tgt := 61) hx0 hb d_Md_hold_52 (by decide) (fun c10_12 => ?_) (fun c10_12 => ?_)
        · replace h := (if_pos c10_12).symm.trans h
          refine lv_iload hx0 hb d_Md_hold_61 (lv_at hl 1 rfl) ?_
          refine lv_iadd hx0 hb d_Md_hold_63 ?_
          refine lv_istore_n (lv' := [(3, .int (x3_10 + ((M.1 11 (Int32.toNatClampNeg x5_10)) - (M.1 10 (Int32.toNatClampNeg x5_10))))), (2, .int (x2_10 + (1 : Int32))), (6, .int ((M.1 11 (Int32.toNatClampNeg x5_10)) - (M.1 10 (Int32.toNatClampNeg x5_10)))), (5, .int x5_10), (4, .int x4_10), (0, .ref (G.1 0)), (1, .int a1)]) hx0 hb d_Md_hold_64 rfl hl (by decide) rfl (fun ls hl => ?_)
          refine lv_iload hx0 hb d_Md_hold_65 (lv_at hl 4 rfl) ?_
          refine lv_if_ne (tgt := 88) hx0 hb d_Md_hold_67 (by decide) (fun c10_13 => ?_) (fun c10_13 => ?_)
          · replace h := (if_neg c10_13).symm.trans h
            refine lv_iload hx0 hb d_Md_hold_88 (lv_at hl 4 rfl) ?_
            refine lv_istore (lv' := [(4, .int x4_10), (3, .int (x3_10 + ((M.1 11 (Int32.toNatClampNeg x5_10)) - (M.1 10 (Int32.toNatClampNeg x5_10))))), (2, .int (x2_10 + (1 : Int32))), (6, .int ((M.1 11 (Int32.toNatClampNeg x5_10)) - (M.1 10 (Int32.toNatClampNeg x5_10)))), (5, .int x5_10), (0, .ref (G.1 0)), (1, .int a1)]) hx0 hb d_Md_hold_90 hl (by decide) rfl (fun ls hl => ?_)
            refine lv_iinc (v := (x5_10 + (1 : Int32))) (lv' := [(5, .int (x5_10 + (1 : Int32))), (4, .int x4_10), (3, .int (x3_10 + ((M.1 11 (Int32.toNatClampNeg x5_10)) - (M.1 10 (Int32.toNatClampNeg x5_10))))), (2, .int (x2_10 + (1 : Int32))), (6, .int ((M.1 11 (Int32.toNatClampNeg x5_10)) - (M.1 10 (Int32.toNatClampNeg x5_10)))), (0, .ref (G.1 0)), (1, .int a1)]) hx0 hb d_Md_hold_92 hl (k := 4) rfl rfl (by decide) rfl (fun ls hl => ?_)
            refine lv_goto (tgt := 10) hx0 hb d_Md_hold_95 (by decide) ?_
            obtain rfl := Option.some.inj h
            exact hx _ _ _ hZ (lv_sub hl [0, 1, 2, 3, 5, 6] rfl)
          · replace h := (if_pos c10_13).symm.trans h
            refine lv_aload_n hx0 hb d_Md_hold_70 rfl (lv_at hl 5 rfl) ?_
            refine fg_Md_now hx0 hb hts hown hZ d_Md_hold_71 ?_
            refine lv_iload hx0 hb d_Md_hold_74 (lv_at hl 3 rfl) ?_
            obtain ⟨hi10_14, h⟩ := chk_some h
            refine z_ialoadT (k := 11) hx0 hb hZ hi10_14 d_Md_hold_76 ?_
            refine lv_aload_n hx0 hb d_Md_hold_77 rfl (lv_at hl 5 rfl) ?_
            refine fg_Md_best hx0 hb hts hown hZ d_Md_hold_78 ?_
            refine lv_iload hx0 hb d_Md_hold_81 (lv_at hl 3 rfl) ?_
            obtain ⟨hi10_15, h⟩ := chk_some h
            refine z_ialoadT (k := 17) hx0 hb hZ hi10_15 d_Md_hold_83 ?_
            refine lv_isub hx0 hb d_Md_hold_84 ?_
            refine lv_goto (tgt := 90) hx0 hb d_Md_hold_85 (by decide) ?_
            refine lv_istore (lv' := [(4, .int ((M.1 11 (Int32.toNatClampNeg x5_10)) - (M.1 17 (Int32.toNatClampNeg x5_10)))), (3, .int (x3_10 + ((M.1 11 (Int32.toNatClampNeg x5_10)) - (M.1 10 (Int32.toNatClampNeg x5_10))))), (2, .int (x2_10 + (1 : Int32))), (6, .int ((M.1 11 (Int32.toNatClampNeg x5_10)) - (M.1 10 (Int32.toNatClampNeg x5_10)))), (5, .int x5_10), (0, .ref (G.1 0)), (1, .int a1)]) hx0 hb d_Md_hold_90 hl (by decide) rfl (fun ls hl => ?_)
            refine lv_iinc (v := (x5_10 + (1 : Int32))) (lv' := [(5, .int (x5_10 + (1 : Int32))), (4, .int ((M.1 11 (Int32.toNatClampNeg x5_10)) - (M.1 17 (Int32.toNatClampNeg x5_10)))), (3, .int (x3_10 + ((M.1 11 (Int32.toNatClampNeg x5_10)) - (M.1 10 (Int32.toNatClampNeg x5_10))))), (2, .int (x2_10 + (1 : Int32))), (6, .int ((M.1 11 (Int32.toNatClampNeg x5_10)) - (M.1 10 (Int32.toNatClampNeg x5_10)))), (0, .ref (G.1 0)), (1, .int a1)]) hx0 hb d_Md_hold_92 hl (k := 4) rfl rfl (by decide) rfl (fun ls hl => ?_)
            refine lv_goto (tgt := 10) hx0 hb d_Md_hold_95 (by decide) ?_
            obtain rfl := Option.some.inj h
            exact hx _ _ _ hZ (lv_sub hl [0, 1, 2, 3, 5, 6] rfl)
        · replace h := (if_neg c10_12).symm.trans h
          refine lv_iload hx0 hb d_Md_hold_55 (lv_at hl 1 rfl) ?_
          refine lv_ineg hx0 hb d_Md_hold_57 ?_
          refine lv_goto (tgt := 63) hx0 hb d_Md_hold_58 (by decide) ?_
          refine lv_iadd hx0 hb d_Md_hold_63 ?_
          refine lv_istore_n (lv' := [(3, .int (x3_10 + (-((M.1 11 (Int32.toNatClampNeg x5_10)) - (M.1 10 (Int32.toNatClampNeg x5_10)))))), (2, .int (x2_10 + (1 : Int32))), (6, .int ((M.1 11 (Int32.toNatClampNeg x5_10)) - (M.1 10 (Int32.toNatClampNeg x5_10)))), (5, .int x5_10), (4, .int x4_10), (0, .ref (G.1 0)), (1, .int a1)]) hx0 hb d_Md_hold_64 rfl hl (by decide) rfl (fun ls hl => ?_)
          refine lv_iload hx0 hb d_Md_hold_65 (lv_at hl 4 rfl) ?_
          refine lv_if_ne (tgt := 88) hx0 hb d_Md_hold_67 (by decide) (fun c10_16 => ?_) (fun c10_16 => ?_)
          · replace h := (if_neg c10_16).symm.trans h
            refine lv_iload hx0 hb d_Md_hold_88 (lv_at hl 4 rfl) ?_
            refine lv_istore (lv' := [(4, .int x4_10), (3, .int (x3_10 + (-((M.1 11 (Int32.toNatClampNeg x5_10)) - (M.1 10 (Int32.toNatClampNeg x5_10)))))), (2, .int (x2_10 + (1 : Int32))), (6, .int ((M.1 11 (Int32.toNatClampNeg x5_10)) - (M.1 10 (Int32.toNatClampNeg x5_10)))), (5, .int x5_10), (0, .ref (G.1 0)), (1, .int a1)]) hx0 hb d_Md_hold_90 hl (by decide) rfl (fun ls hl => ?_)
            refine lv_iinc (v := (x5_10 + (1 : Int32))) (lv' := [(5, .int (x5_10 + (1 : Int32))), (4, .int x4_10), (3, .int (x3_10 + (-((M.1 11 (Int32.toNatClampNeg x5_10)) - (M.1 10 (Int32.toNatClampNeg x5_10)))))), (2, .int (x2_10 + (1 : Int32))), (6, .int ((M.1 11 (Int32.toNatClampNeg x5_10)) - (M.1 10 (Int32.toNatClampNeg x5_10)))), (0, .ref (G.1 0)), (1, .int a1)]) hx0 hb d_Md_hold_92 hl (k := 4) rfl rfl (by decide) rfl (fun ls hl => ?_)
            refine lv_goto (tgt := 10) hx0 hb d_Md_hold_95 (by decide) ?_
            obtain rfl := Option.some.inj h
            exact hx _ _ _ hZ (lv_sub hl [0, 1, 2, 3, 5, 6] rfl)
          · replace h := (if_pos c10_16).symm.trans h
            refine lv_aload_n hx0 hb d_Md_hold_70 rfl (lv_at hl 5 rfl) ?_
            refine fg_Md_now hx0 hb hts hown hZ d_Md_hold_71 ?_
            refine lv_iload hx0 hb d_Md_hold_74 (lv_at hl 3 rfl) ?_
            obtain ⟨hi10_17, h⟩ := chk_some h
            refine z_ialoadT (k := 11) hx0 hb hZ hi10_17 d_Md_hold_76 ?_
            refine lv_aload_n hx0 hb d_Md_hold_77 rfl (lv_at hl 5 rfl) ?_
            refine fg_Md_best hx0 hb hts hown hZ d_Md_hold_78 ?_
            refine lv_iload hx0 hb d_Md_hold_81 (lv_at hl 3 rfl) ?_
            obtain ⟨hi10_18, h⟩ := chk_some h
            refine z_ialoadT (k := 17) hx0 hb hZ hi10_18 d_Md_hold_83 ?_
            refine lv_isub hx0 hb d_Md_hold_84 ?_
            refine lv_goto (tgt := 90) hx0 hb d_Md_hold_85 (by decide) ?_
            refine lv_istore (lv' := [(4, .int ((M.1 11 (Int32.toNatClampNeg x5_10)) - (M.1 17 (Int32.toNatClampNeg x5_10)))), (3, .int (x3_10 + (-((M.1 11 (Int32.toNatClampNeg x5_10)) - (M.1 10 (Int32.toNatClampNeg x5_10)))))), (2, .int (x2_10 + (1 : Int32))), (6, .int ((M.1 11 (Int32.toNatClampNeg x5_10)) - (M.1 10 (Int32.toNatClampNeg x5_10)))), (5, .int x5_10), (0, .ref (G.1 0)), (1, .int a1)]) hx0 hb d_Md_hold_90 hl (by decide) rfl (fun ls hl => ?_)
            refine lv_iinc (v := (x5_10 + (1 : Int32))) (lv' := [(5, .int (x5_10 + (1 : Int32))), (4, .int ((M.1 11 (Int32.toNatClampNeg x5_10)) - (M.1 17 (Int32.toNatClampNeg x5_10)))), (3, .int (x3_10 + (-((M.1 11 (Int32.toNatClampNeg x5_10)) - (M.1 10 (Int32.toNatClampNeg x5_10)))))), (2, .int (x2_10 + (1 : Int32))), (6, .int ((M.1 11 (Int32.toNatClampNeg x5_10)) - (M.1 10 (Int32.toNatClampNeg x5_10)))), (0, .ref (G.1 0)), (1, .int a1)]) hx0 hb d_Md_hold_92 hl (k := 4) rfl rfl (by decide) rfl (fun ls hl => ?_)
            refine lv_goto (tgt := 10) hx0 hb d_Md_hold_95 (by decide) ?_
            obtain rfl := Option.some.inj h
            exact hx _ _ _ hZ (lv_sub hl [0, 1, 2, 3, 5, 6] rfl)
  · replace hZ : ZZT G s M H locs := hZ
    replace hl : lv_has ls 7 [(4, .int q1.2.2.1), (3, .int q1.2.1), (2, .int q1.1), (0, .ref (G.1 0)), (1, .int a1)] := hl
    refine lv_iload_n hx0 hb d_Md_hold_98 rfl (lv_at hl 4 rfl) ?_
    refine lv_if_ne (tgt := 139) hx0 hb d_Md_hold_99 (by decide) (fun c2 => ?_) (fun c2 => ?_)
    · replace h := (if_neg c2).symm.trans h
      refine lv_aload_n hx0 hb d_Md_hold_139 rfl (lv_at hl 3 rfl) ?_
      refine lv_iload_n hx0 hb d_Md_hold_140 rfl (lv_at hl 2 rfl) ?_
      refine fp_Md_bestMany hx0 hb hts hown hZ d_Md_hold_141 (fun H locs hZ => ?_)
      obtain ⟨m3, em3, h⟩ := nm_some h
      rw [em3] at hZ
      refine lv_aload_n hx0 hb d_Md_hold_144 rfl (lv_at hl 3 rfl) ?_
      refine lv_iload_n hx0 hb d_Md_hold_145 rfl (lv_at hl 1 rfl) ?_
      refine fp_Md_bestSum hx0 hb hts hown hZ d_Md_hold_146 (fun H locs hZ => ?_)
      obtain ⟨m4, em4, h⟩ := nm_some h
      rw [em4] at hZ
      refine lv_iconst (v := (0 : Int32)) hx0 hb d_Md_hold_149 (by decide) ?_
      refine lv_istore (lv' := [(5, .int (0 : Int32)), (4, .int q1.2.2.1), (3, .int q1.2.1), (2, .int q1.1), (0, .ref (G.1 0)), (1, .int a1)]) hx0 hb d_Md_hold_150 hl (by decide) rfl (fun ls hl => ?_)
      obtain ⟨q5, hq21, h⟩ := bnd_some h
      refine W_itr (At := fun (s0 : Int32 × Mem) => ∀ (H : Heap) (locs : List Loc) (ls : Array Slot), ZZT G s s0.2 H locs → lv_has ls 7 [(5, .int s0.1), (0, .ref (G.1 0))] → W p l e rm_Md_hold s m args below meth c H locs 0 0 Q (F0 m 152 ls [])) (Ex := fun (q0 : Int32 × Mem) => ∀ (H : Heap) (locs : List Loc) (ls : Array Slot), ZZT G s q0.2 H locs → lv_has ls 7 [] → W p l e rm_Md_hold s m args below meth c H locs 0 0 Q (F0 m 181 ls [])) (fun s0 x h hx => ?_) _ _ q5 hq21 (fun H locs ls hZ hl => ?_) _ _ _ hZ (lv_sub hl [0, 4] rfl)
      · obtain ⟨x5_152, M_152⟩ := s0
        replace h : p_Md_hold_L152 x5_152 M_152 = some x := h
        unfold p_Md_hold_L152 at h
        intro H locs ls hZ hl
        replace hZ : ZZT G s M_152 H locs := hZ
        replace hl : lv_has ls 7 [(5, .int x5_152), (0, .ref (G.1 0))] := hl
        refine lv_iload hx0 hb d_Md_hold_152 (lv_at hl 0 rfl) ?_
        refine lv_aload_n hx0 hb d_Md_hold_154 rfl (lv_at hl 1 rfl) ?_
        refine fg_Md_columns hx0 hb hts hown hZ d_Md_hold_155 ?_
        refine lv_icmp_ge (tgt := 181) hx0 hb d_Md_hold_158 (by decide) (fun c152_1 => ?_) (fun c152_1 => ?_)
        · replace h := (if_pos c152_1).symm.trans h
          obtain rfl := Option.some.inj h
          exact hx _ _ _ hZ (lv_sub hl [] rfl)
        · replace h := (if_neg c152_1).symm.trans h
          refine lv_aload_n hx0 hb d_Md_hold_161 rfl (lv_at hl 1 rfl) ?_
          refine fg_Md_best hx0 hb hts hown hZ d_Md_hold_162 ?_
          refine lv_iload hx0 hb d_Md_hold_165 (lv_at hl 0 rfl) ?_
          refine lv_aload_n hx0 hb d_Md_hold_167 rfl (lv_at hl 1 rfl) ?_
          refine fg_Md_now hx0 hb hts hown hZ d_Md_hold_168 ?_
          refine lv_iload hx0 hb d_Md_hold_171 (lv_at hl 0 rfl) ?_
          obtain ⟨hi152_2, h⟩ := chk_some h
          refine z_ialoadT (k := 11) hx0 hb hZ hi152_2 d_Md_hold_173 ?_
          obtain ⟨hi152_3, h⟩ := chk_some h
          refine z_iastoreT (k := 17) hx0 hb hZ hi152_3 d_Md_hold_174 (fun H locs hZ => ?_)
          obtain ⟨m152_4, em152_4, h⟩ := nm_some h
          rw [em152_4] at hZ
          refine lv_iinc (v := (x5_152 + (1 : Int32))) (lv' := [(5, .int (x5_152 + (1 : Int32))), (0, .ref (G.1 0))]) hx0 hb d_Md_hold_175 hl (k := 0) rfl rfl (by decide) rfl (fun ls hl => ?_)
          refine lv_goto (tgt := 152) hx0 hb d_Md_hold_178 (by decide) ?_
          obtain rfl := Option.some.inj h
          exact hx _ _ _ hZ (lv_sub hl [0, 1] rfl)
      · replace hZ : ZZT G s q5.2 H locs := hZ
        replace hl : lv_has ls 7 [] := hl
        obtain rfl := Option.some.inj h
        exact z_vretT hx0 hb hr hZ hlocks hQ d_Md_hold_181
    · replace h := (if_pos c2).symm.trans h
      refine lv_iload_n hx0 hb d_Md_hold_102 rfl (lv_at hl 2 rfl) ?_
      refine lv_aload_n hx0 hb d_Md_hold_103 rfl (lv_at hl 3 rfl) ?_
      refine fg_Md_bestMany hx0 hb hts hown hZ d_Md_hold_104 ?_
      refine lv_icmp_lt (tgt := 139) hx0 hb d_Md_hold_107 (by decide) (fun c6 => ?_) (fun c6 => ?_)
      · replace h := (if_pos c6).symm.trans h
        refine lv_aload_n hx0 hb d_Md_hold_139 rfl (lv_at hl 3 rfl) ?_
        refine lv_iload_n hx0 hb d_Md_hold_140 rfl (lv_at hl 2 rfl) ?_
        refine fp_Md_bestMany hx0 hb hts hown hZ d_Md_hold_141 (fun H locs hZ => ?_)
        obtain ⟨m7, em7, h⟩ := nm_some h
        rw [em7] at hZ
        refine lv_aload_n hx0 hb d_Md_hold_144 rfl (lv_at hl 3 rfl) ?_
        refine lv_iload_n hx0 hb d_Md_hold_145 rfl (lv_at hl 1 rfl) ?_
        refine fp_Md_bestSum hx0 hb hts hown hZ d_Md_hold_146 (fun H locs hZ => ?_)
        obtain ⟨m8, em8, h⟩ := nm_some h
        rw [em8] at hZ
        refine lv_iconst (v := (0 : Int32)) hx0 hb d_Md_hold_149 (by decide) ?_
        refine lv_istore (lv' := [(5, .int (0 : Int32)), (4, .int q1.2.2.1), (3, .int q1.2.1), (2, .int q1.1), (0, .ref (G.1 0)), (1, .int a1)]) hx0 hb d_Md_hold_150 hl (by decide) rfl (fun ls hl => ?_)
        obtain ⟨q9, hq22, h⟩ := bnd_some h
        refine W_itr (At := fun (s0 : Int32 × Mem) => ∀ (H : Heap) (locs : List Loc) (ls : Array Slot), ZZT G s s0.2 H locs → lv_has ls 7 [(5, .int s0.1), (0, .ref (G.1 0))] → W p l e rm_Md_hold s m args below meth c H locs 0 0 Q (F0 m 152 ls [])) (Ex := fun (q0 : Int32 × Mem) => ∀ (H : Heap) (locs : List Loc) (ls : Array Slot), ZZT G s q0.2 H locs → lv_has ls 7 [] → W p l e rm_Md_hold s m args below meth c H locs 0 0 Q (F0 m 181 ls [])) (fun s0 x h hx => ?_) _ _ q9 hq22 (fun H locs ls hZ hl => ?_) _ _ _ hZ (lv_sub hl [0, 4] rfl)
        · obtain ⟨x5_152, M_152⟩ := s0
          replace h : p_Md_hold_L152 x5_152 M_152 = some x := h
          unfold p_Md_hold_L152 at h
          intro H locs ls hZ hl
          replace hZ : ZZT G s M_152 H locs := hZ
          replace hl : lv_has ls 7 [(5, .int x5_152), (0, .ref (G.1 0))] := hl
          refine lv_iload hx0 hb d_Md_hold_152 (lv_at hl 0 rfl) ?_
          refine lv_aload_n hx0 hb d_Md_hold_154 rfl (lv_at hl 1 rfl) ?_
          refine fg_Md_columns hx0 hb hts hown hZ d_Md_hold_155 ?_
          refine lv_icmp_ge (tgt := 181) hx0 hb d_Md_hold_158 (by decide) (fun c152_1 => ?_) (fun c152_1 => ?_)
          · replace h := (if_pos c152_1).symm.trans h
            obtain rfl := Option.some.inj h
            exact hx _ _ _ hZ (lv_sub hl [] rfl)
          · replace h := (if_neg c152_1).symm.trans h
            refine lv_aload_n hx0 hb d_Md_hold_161 rfl (lv_at hl 1 rfl) ?_
            refine fg_Md_best hx0 hb hts hown hZ d_Md_hold_162 ?_
            refine lv_iload hx0 hb d_Md_hold_165 (lv_at hl 0 rfl) ?_
            refine lv_aload_n hx0 hb d_Md_hold_167 rfl (lv_at hl 1 rfl) ?_
            refine fg_Md_now hx0 hb hts hown hZ d_Md_hold_168 ?_
            refine lv_iload hx0 hb d_Md_hold_171 (lv_at hl 0 rfl) ?_
            obtain ⟨hi152_2, h⟩ := chk_some h
            refine z_ialoadT (k := 11) hx0 hb hZ hi152_2 d_Md_hold_173 ?_
            obtain ⟨hi152_3, h⟩ := chk_some h
            refine z_iastoreT (k := 17) hx0 hb hZ hi152_3 d_Md_hold_174 (fun H locs hZ => ?_)
            obtain ⟨m152_4, em152_4, h⟩ := nm_some h
            rw [em152_4] at hZ
            refine lv_iinc (v := (x5_152 + (1 : Int32))) (lv' := [(5, .int (x5_152 + (1 : Int32))), (0, .ref (G.1 0))]) hx0 hb d_Md_hold_175 hl (k := 0) rfl rfl (by decide) rfl (fun ls hl => ?_)
            refine lv_goto (tgt := 152) hx0 hb d_Md_hold_178 (by decide) ?_
            obtain rfl := Option.some.inj h
            exact hx _ _ _ hZ (lv_sub hl [0, 1] rfl)
        · replace hZ : ZZT G s q9.2 H locs := hZ
          replace hl : lv_has ls 7 [] := hl
          obtain rfl := Option.some.inj h
          exact z_vretT hx0 hb hr hZ hlocks hQ d_Md_hold_181
      · replace h := (if_neg c6).symm.trans h
        refine lv_iload_n hx0 hb d_Md_hold_110 rfl (lv_at hl 2 rfl) ?_
        refine lv_aload_n hx0 hb d_Md_hold_111 rfl (lv_at hl 3 rfl) ?_
        refine fg_Md_bestMany hx0 hb hts hown hZ d_Md_hold_112 ?_
        refine lv_icmp_ne (tgt := 181) hx0 hb d_Md_hold_115 (by decide) (fun c10 => ?_) (fun c10 => ?_)
        · replace h := (if_neg c10).symm.trans h
          obtain rfl := Option.some.inj h
          exact z_vretT hx0 hb hr hZ hlocks hQ d_Md_hold_181
        · replace h := (if_pos c10).symm.trans h
          refine lv_iload_n hx0 hb d_Md_hold_118 rfl (lv_at hl 1 rfl) ?_
          refine lv_aload_n hx0 hb d_Md_hold_119 rfl (lv_at hl 3 rfl) ?_
          refine fg_Md_bestSum hx0 hb hts hown hZ d_Md_hold_120 ?_
          refine lv_icmp_lt (tgt := 139) hx0 hb d_Md_hold_123 (by decide) (fun c11 => ?_) (fun c11 => ?_)
          · replace h := (if_pos c11).symm.trans h
            refine lv_aload_n hx0 hb d_Md_hold_139 rfl (lv_at hl 3 rfl) ?_
            refine lv_iload_n hx0 hb d_Md_hold_140 rfl (lv_at hl 2 rfl) ?_
            refine fp_Md_bestMany hx0 hb hts hown hZ d_Md_hold_141 (fun H locs hZ => ?_)
            obtain ⟨m12, em12, h⟩ := nm_some h
            rw [em12] at hZ
            refine lv_aload_n hx0 hb d_Md_hold_144 rfl (lv_at hl 3 rfl) ?_
            refine lv_iload_n hx0 hb d_Md_hold_145 rfl (lv_at hl 1 rfl) ?_
            refine fp_Md_bestSum hx0 hb hts hown hZ d_Md_hold_146 (fun H locs hZ => ?_)
            obtain ⟨m13, em13, h⟩ := nm_some h
            rw [em13] at hZ
            refine lv_iconst (v := (0 : Int32)) hx0 hb d_Md_hold_149 (by decide) ?_
            refine lv_istore (lv' := [(5, .int (0 : Int32)), (4, .int q1.2.2.1), (3, .int q1.2.1), (2, .int q1.1), (0, .ref (G.1 0)), (1, .int a1)]) hx0 hb d_Md_hold_150 hl (by decide) rfl (fun ls hl => ?_)
            obtain ⟨q14, hq23, h⟩ := bnd_some h
            refine W_itr (At := fun (s0 : Int32 × Mem) => ∀ (H : Heap) (locs : List Loc) (ls : Array Slot), ZZT G s s0.2 H locs → lv_has ls 7 [(5, .int s0.1), (0, .ref (G.1 0))] → W p l e rm_Md_hold s m args below meth c H locs 0 0 Q (F0 m 152 ls [])) (Ex := fun (q0 : Int32 × Mem) => ∀ (H : Heap) (locs : List Loc) (ls : Array Slot), ZZT G s q0.2 H locs → lv_has ls 7 [] → W p l e rm_Md_hold s m args below meth c H locs 0 0 Q (F0 m 181 ls [])) (fun s0 x h hx => ?_) _ _ q14 hq23 (fun H locs ls hZ hl => ?_) _ _ _ hZ (lv_sub hl [0, 4] rfl)
            · obtain ⟨x5_152, M_152⟩ := s0
              replace h : p_Md_hold_L152 x5_152 M_152 = some x := h
              unfold p_Md_hold_L152 at h
              intro H locs ls hZ hl
              replace hZ : ZZT G s M_152 H locs := hZ
              replace hl : lv_has ls 7 [(5, .int x5_152), (0, .ref (G.1 0))] := hl
              refine lv_iload hx0 hb d_Md_hold_152 (lv_at hl 0 rfl) ?_
              refine lv_aload_n hx0 hb d_Md_hold_154 rfl (lv_at hl 1 rfl) ?_
              refine fg_Md_columns hx0 hb hts hown hZ d_Md_hold_155 ?_
              refine lv_icmp_ge (tgt := 181) hx0 hb d_Md_hold_158 (by decide) (fun c152_1 => ?_) (fun c152_1 => ?_)
              · replace h := (if_pos c152_1).symm.trans h
                obtain rfl := Option.some.inj h
                exact hx _ _ _ hZ (lv_sub hl [] rfl)
              · replace h := (if_neg c152_1).symm.trans h
                refine lv_aload_n hx0 hb d_Md_hold_161 rfl (lv_at hl 1 rfl) ?_
                refine fg_Md_best hx0 hb hts hown hZ d_Md_hold_162 ?_
                refine lv_iload hx0 hb d_Md_hold_165 (lv_at hl 0 rfl) ?_
                refine lv_aload_n hx0 hb d_Md_hold_167 rfl (lv_at hl 1 rfl) ?_
                refine fg_Md_now hx0 hb hts hown hZ d_Md_hold_168 ?_
                refine lv_iload hx0 hb d_Md_hold_171 (lv_at hl 0 rfl) ?_
                obtain ⟨hi152_2, h⟩ := chk_some h
                refine z_ialoadT (k := 11) hx0 hb hZ hi152_2 d_Md_hold_173 ?_
                obtain ⟨hi152_3, h⟩ := chk_some h
                refine z_iastoreT (k := 17) hx0 hb hZ hi152_3 d_Md_hold_174 (fun H locs hZ => ?_)
                obtain ⟨m152_4, em152_4, h⟩ := nm_some h
                rw [em152_4] at hZ
                refine lv_iinc (v := (x5_152 + (1 : Int32))) (lv' := [(5, .int (x5_152 + (1 : Int32))), (0, .ref (G.1 0))]) hx0 hb d_Md_hold_175 hl (k := 0) rfl rfl (by decide) rfl (fun ls hl => ?_)
                refine lv_goto (tgt := 152) hx0 hb d_Md_hold_178 (by decide) ?_
                obtain rfl := Option.some.inj h
                exact hx _ _ _ hZ (lv_sub hl [0, 1] rfl)
            · replace hZ : ZZT G s q14.2 H locs := hZ
              replace hl : lv_has ls 7 [] := hl
              obtain rfl := Option.some.inj h
              exact z_vretT hx0 hb hr hZ hlocks hQ d_Md_hold_181
          · replace h := (if_neg c11).symm.trans h
            refine lv_iload_n hx0 hb d_Md_hold_126 rfl (lv_at hl 1 rfl) ?_
            refine lv_aload_n hx0 hb d_Md_hold_127 rfl (lv_at hl 3 rfl) ?_
            refine fg_Md_bestSum hx0 hb hts hown hZ d_Md_hold_128 ?_
            refine lv_icmp_ne (tgt := 181) hx0 hb d_Md_hold_131 (by decide) (fun c15 => ?_) (fun c15 => ?_)
            · replace h := (if_neg c15).symm.trans h
              obtain rfl := Option.some.inj h
              exact z_vretT hx0 hb hr hZ hlocks hQ d_Md_hold_181
            · replace h := (if_pos c15).symm.trans h
              refine lv_iload hx0 hb d_Md_hold_134 (lv_at hl 0 rfl) ?_
              refine lv_if_ge (tgt := 181) hx0 hb d_Md_hold_136 (by decide) (fun c16 => ?_) (fun c16 => ?_)
              · replace h := (if_pos c16).symm.trans h
                obtain rfl := Option.some.inj h
                exact z_vretT hx0 hb hr hZ hlocks hQ d_Md_hold_181
              · replace h := (if_neg c16).symm.trans h
                refine lv_aload_n hx0 hb d_Md_hold_139 rfl (lv_at hl 3 rfl) ?_
                refine lv_iload_n hx0 hb d_Md_hold_140 rfl (lv_at hl 2 rfl) ?_
                refine fp_Md_bestMany hx0 hb hts hown hZ d_Md_hold_141 (fun H locs hZ => ?_)
                obtain ⟨m17, em17, h⟩ := nm_some h
                rw [em17] at hZ
                refine lv_aload_n hx0 hb d_Md_hold_144 rfl (lv_at hl 3 rfl) ?_
                refine lv_iload_n hx0 hb d_Md_hold_145 rfl (lv_at hl 1 rfl) ?_
                refine fp_Md_bestSum hx0 hb hts hown hZ d_Md_hold_146 (fun H locs hZ => ?_)
                obtain ⟨m18, em18, h⟩ := nm_some h
                rw [em18] at hZ
                refine lv_iconst (v := (0 : Int32)) hx0 hb d_Md_hold_149 (by decide) ?_
                refine lv_istore (lv' := [(5, .int (0 : Int32)), (4, .int q1.2.2.1), (3, .int q1.2.1), (2, .int q1.1), (0, .ref (G.1 0)), (1, .int a1)]) hx0 hb d_Md_hold_150 hl (by decide) rfl (fun ls hl => ?_)
                obtain ⟨q19, hq24, h⟩ := bnd_some h
                refine W_itr (At := fun (s0 : Int32 × Mem) => ∀ (H : Heap) (locs : List Loc) (ls : Array Slot), ZZT G s s0.2 H locs → lv_has ls 7 [(5, .int s0.1), (0, .ref (G.1 0))] → W p l e rm_Md_hold s m args below meth c H locs 0 0 Q (F0 m 152 ls [])) (Ex := fun (q0 : Int32 × Mem) => ∀ (H : Heap) (locs : List Loc) (ls : Array Slot), ZZT G s q0.2 H locs → lv_has ls 7 [] → W p l e rm_Md_hold s m args below meth c H locs 0 0 Q (F0 m 181 ls [])) (fun s0 x h hx => ?_) _ _ q19 hq24 (fun H locs ls hZ hl => ?_) _ _ _ hZ (lv_sub hl [0, 4] rfl)
                · obtain ⟨x5_152, M_152⟩ := s0
                  replace h : p_Md_hold_L152 x5_152 M_152 = some x := h
                  unfold p_Md_hold_L152 at h
                  intro H locs ls hZ hl
                  replace hZ : ZZT G s M_152 H locs := hZ
                  replace hl : lv_has ls 7 [(5, .int x5_152), (0, .ref (G.1 0))] := hl
                  refine lv_iload hx0 hb d_Md_hold_152 (lv_at hl 0 rfl) ?_
                  refine lv_aload_n hx0 hb d_Md_hold_154 rfl (lv_at hl 1 rfl) ?_
                  refine fg_Md_columns hx0 hb hts hown hZ d_Md_hold_155 ?_
                  refine lv_icmp_ge (tgt := 181) hx0 hb d_Md_hold_158 (by decide) (fun c152_1 => ?_) (fun c152_1 => ?_)
                  · replace h := (if_pos c152_1).symm.trans h
                    obtain rfl := Option.some.inj h
                    exact hx _ _ _ hZ (lv_sub hl [] rfl)
                  · replace h := (if_neg c152_1).symm.trans h
                    refine lv_aload_n hx0 hb d_Md_hold_161 rfl (lv_at hl 1 rfl) ?_
                    refine fg_Md_best hx0 hb hts hown hZ d_Md_hold_162 ?_
                    refine lv_iload hx0 hb d_Md_hold_165 (lv_at hl 0 rfl) ?_
                    refine lv_aload_n hx0 hb d_Md_hold_167 rfl (lv_at hl 1 rfl) ?_
                    refine fg_Md_now hx0 hb hts hown hZ d_Md_hold_168 ?_
                    refine lv_iload hx0 hb d_Md_hold_171 (lv_at hl 0 rfl) ?_
                    obtain ⟨hi152_2, h⟩ := chk_some h
                    refine z_ialoadT (k := 11) hx0 hb hZ hi152_2 d_Md_hold_173 ?_
                    obtain ⟨hi152_3, h⟩ := chk_some h
                    refine z_iastoreT (k := 17) hx0 hb hZ hi152_3 d_Md_hold_174 (fun H locs hZ => ?_)
                    obtain ⟨m152_4, em152_4, h⟩ := nm_some h
                    rw [em152_4] at hZ
                    refine lv_iinc (v := (x5_152 + (1 : Int32))) (lv' := [(5, .int (x5_152 + (1 : Int32))), (0, .ref (G.1 0))]) hx0 hb d_Md_hold_175 hl (k := 0) rfl rfl (by decide) rfl (fun ls hl => ?_)
                    refine lv_goto (tgt := 152) hx0 hb d_Md_hold_178 (by decide) ?_
                    obtain rfl := Option.some.inj h
                    exact hx _ _ _ hZ (lv_sub hl [0, 1] rfl)
                · replace hZ : ZZT G s q19.2 H locs := hZ
                  replace hl : lv_has ls 7 [] := hl
                  obtain rfl := Option.some.inj h
                  exact z_vretT hx0 hb hr hZ hlocks hQ d_Md_hold_181
