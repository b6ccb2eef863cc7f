def p_ES_told (a0 : Int64) (a2 : Int64) (a4 : Int32) (M : Mem) : Option (Option Int64) :=
  if 0 < (lg_cmp a2 (0 : Int64)) then
    bnd (p_ES_commonDivisor (if 0 < a0 then a0 else -a0) a2 M) fun q2 =>
    if 0 < (lg_cmp q2 (0 : Int64)) then
      if a4 = 0 then
        chk (decide (¬ q2 = 0)) <|
        some (some (a0 / q2))
      else
        chk (decide (¬ q2 = 0)) <|
        some (some (a2 / q2))
    else
      some (some (-1000000000000 : Int64))
  else
    some none
def p_ES_both (a1 : Int32) (a2 : Int32) (a3 : Int32) (M : Mem) : Option (Option Int64 × Mem) :=
  bnd (p_ES_isColumn a1 M) fun q1 =>
  if q1 = 0 then
    some (some (-1000000000000 : Int64), M)
  else
    bnd (p_ES_isColumn a2 M) fun q3 =>
    if q3 = 0 then
      some (some (-1000000000000 : Int64), M)
    else
      bnd (p_ES_isPart a3 M) fun q5 =>
      if q5 = 0 then
        some (some (-1000000000000 : Int64), M)
      else
        bnd (p_Gr_ofColumn a1 M) fun q7 =>
        bnd (p_Gr_ofColumn a2 M) fun q8 =>
        if q7 = q8 then
          some (some (-1000000000000 : Int64), M)
        else
          bnd (p_Me_togetherSum q7 q8 M) fun q10 =>
          bnd (p_Me_togetherWays  q10.2) fun q11 =>
          bnd (p_Rw_count  q10.2) fun q12 =>
          bnd (p_ES_told q10.1 (q11 * (Int32.toInt64 q12)) a3 q10.2) fun q13 => match q13 with
            | none => some (none, q10.2)
            | some q13v =>
              some (some q13v, q10.2)
def p_ES_partial (a1 : Int32) (a2 : Int32) (a3 : Int32) (M : Mem) : Option (Option Int64 × Mem) :=
  bnd (p_ES_isColumn a1 M) fun q1 =>
  if q1 = 0 then
    some (some (-1000000000000 : Int64), M)
  else
    bnd (p_ES_isPart a3 M) fun q3 =>
    if q3 = 0 then
      some (some (-1000000000000 : Int64), M)
    else
      bnd (p_ES_isWithin a2 (100 : Int32) M) fun q5 =>
      if q5 = 0 then
        some (some (-1000000000000 : Int64), M)
      else
        bnd (p_Me_replacedSum a1 a2 M) fun q7 =>
        bnd (p_Rw_count  q7.2) fun q8 =>
        bnd (p_ES_told q7.1 (Int32.toInt64 q8) a3 q7.2) fun q9 => match q9 with
          | none => some (none, q7.2)
          | some q9v =>
            some (some q9v, q7.2)
def p_ES_worth (a1 : Int32) (a2 : Int32) (M : Mem) : Option (Option Int64 × Mem) :=
  bnd (p_ES_isColumn a1 M) fun q1 =>
  if q1 = 0 then
    some (some (-1000000000000 : Int64), M)
  else
    bnd (p_ES_isPart a2 M) fun q3 =>
    if q3 = 0 then
      some (some (-1000000000000 : Int64), M)
    else
      bnd (p_Me_changeSum a1 M) fun q5 =>
      bnd (p_Rw_count  q5.2) fun q6 =>
      bnd (p_Rw_count  q5.2) fun q7 =>
      bnd (p_ES_told q5.1 ((Int32.toInt64 q6) * (Int32.toInt64 q7)) a2 q5.2) fun q8 => match q8 with
        | none => some (none, q5.2)
        | some q8v =>
          some (some q8v, q5.2)
def p_ES_value (a1 : Int32) (a2 : Int32) (M : Mem) : Option (Option Int64 × Mem) :=
  if a1 < 0 then
    some (some (-1000000000000 : Int64), M)
  else
    if ((1 : Int32) <<< ((M.1 0 0) &&& 31)) ≤ a1 then
      some (some (-1000000000000 : Int64), M)
    else
      bnd (p_ES_isPart a2 M) fun q3 =>
      if q3 = 0 then
        some (some (-1000000000000 : Int64), M)
      else
        bnd (p_Me_total a1 M) fun q5 =>
        bnd (p_Rw_count  q5.2) fun q6 =>
        bnd (p_ES_told q5.1 (Int32.toInt64 q6) a2 q5.2) fun q7 => match q7 with
          | none => some (none, q5.2)
          | some q7v =>
            some (some q7v, q5.2)
def p_ES_drawn (a1 : Int32) (a2 : Int32) (a3 : Int32) (a4 : Int32) (M : Mem) : Option (Option Int64 × Mem) :=
  bnd (p_ES_isColumn a1 M) fun q1 =>
  if q1 = 0 then
    some (some (-1000000000000 : Int64), M)
  else
    bnd (p_ES_isPart a4 M) fun q3 =>
    if q3 = 0 then
      some (some (-1000000000000 : Int64), M)
    else
      if a3 < (1 : Int32) then
        some (some (-1000000000000 : Int64), M)
      else
        if a3 ≤ (20 : Int32) then
          bnd (p_Gr_ofColumn a1 M) fun q7 =>
          bnd (p_Me_drawnSum q7 a2 a3 M) fun q8 =>
          bnd (p_Rw_count  q8.2) fun q9 =>
          bnd (p_ES_told q8.1 ((Int32.toInt64 a3) * (Int32.toInt64 q9)) a4 q8.2) fun q10 => match q10 with
            | none => some (none, q8.2)
            | some q10v =>
              some (some q10v, q8.2)
        else
          some (some (-1000000000000 : Int64), M)
def p_ES_share (a1 : Int32) (a2 : Int32) (a3 : Int32) (M : Mem) : Option (Option Int64 × Mem) :=
  bnd (p_ES_isColumn a1 M) fun q1 =>
  if q1 = 0 then
    some (some (-1000000000000 : Int64), M)
  else
    bnd (p_ES_isManner a2 M) fun q3 =>
    if q3 = 0 then
      some (some (-1000000000000 : Int64), M)
    else
      bnd (p_ES_isPart a3 M) fun q5 =>
      if q5 = 0 then
        some (some (-1000000000000 : Int64), M)
      else
        bnd (p_Gr_ofColumn a1 M) fun q7 =>
        bnd (p_Me_shareSum q7 a2 M) fun q8 =>
        bnd (p_Me_shareWays a2 q8.2) fun q9 =>
        bnd (p_Rw_count  q8.2) fun q10 =>
        bnd (p_ES_told q8.1 (q9 * (Int32.toInt64 q10)) a3 q8.2) fun q11 => match q11 with
          | none => some (none, q8.2)
          | some q11v =>
            some (some q11v, q8.2)
abbrev rm_ES_told : Room := ({ frames := 1, cells := 0, slots := 0, locals := 32 } : Room)
abbrev rmx_ES_told : Room := { frames := 6, cells := 1, slots := 6, locals := 90 }
set_option maxHeartbeats 4000000 in
set_option maxRecDepth 100000 in
theorem c_ES_told (l : Launch) (G : zG) (a0 : Int64) (a2 : Int64) (a4 : Int32) (M : Mem) (r : Int64) (h : p_ES_told a0 a2 a4 M = some (some r)) : MetZC l G y_ES_told (Cond.code y_ES_told b_ES_told 7 (some .long) :: zws) rm_ES_told [.long a0, .long a2, .int a4] M (some (.long r)) M := by
  unfold p_ES_told at h
  refine z_ofWC (lv := [(0, .long a0), (2, .long a2), (4, .int a4)]) (by decide) (Nat.le_of_ble_eq_true rfl) rfl (fun p e R s m args below meth c Q ls F hl hZ => ?_)
  obtain ⟨hx0, hb, hml, hr, hts, hown, hlocks, rfl, hQ⟩ := F
  refine lv_lload_n hx0 hb d_ES_told_0 rfl (lv_at hl 1 rfl) ?_
  refine lv_lconst (v := (0 : Int64)) hx0 hb d_ES_told_1 (by decide) ?_
  refine W.lcmp hx0 hb d_ES_told_2 ?_
  refine lv_if_gt (tgt := 16) hx0 hb d_ES_told_3 (by decide) (fun c1 => ?_) (fun c1 => ?_)
  · replace h := (if_pos c1).symm.trans h
    refine lv_lload_n hx0 hb d_ES_told_16 rfl (lv_at hl 0 rfl) ?_
    refine m_abs_long_ES hx0 hb hml hts hown hl ⟨Nat.le_of_ble_eq_true rfl, Nat.le_of_ble_eq_true rfl⟩ (Nat.le_of_ble_eq_true rfl) d_ES_told_17 ?_
    refine lv_lload_n hx0 hb d_ES_told_20 rfl (lv_at hl 1 rfl) ?_
    obtain ⟨q2, hc7, h⟩ := bnd_some h
    refine k_ES_ES_commonDivisor [.long (if 0 < a0 then a0 else -a0), .long a2] hx0 hb hml hts hown (c_ES_commonDivisor l G (if 0 < a0 then a0 else -a0) a2 M q2 hc7) hZ rfl rfl ⟨Nat.le_of_ble_eq_true rfl, Nat.le_of_ble_eq_true rfl⟩ hl.1 rfl (Nat.le_of_ble_eq_true rfl) d_ES_told_21 (fun H locs hZ => ?_)
    refine lv_lstore (lv' := [(5, .long q2), (0, .long a0), (2, .long a2), (4, .int a4)]) hx0 hb d_ES_told_24 hl (by decide) rfl (fun ls hl => ?_)
    refine lv_lload hx0 hb d_ES_told_26 (lv_at hl 0 rfl) ?_
    refine lv_lconst (v := (0 : Int64)) hx0 hb d_ES_told_28 (by decide) ?_
    refine W.lcmp hx0 hb d_ES_told_29 ?_
    refine lv_if_gt (tgt := 37) hx0 hb d_ES_told_30 (by decide) (fun c3 => ?_) (fun c3 => ?_)
    · replace h := (if_pos c3).symm.trans h
      refine lv_iload hx0 hb d_ES_told_37 (lv_at hl 3 rfl) ?_
      refine lv_if_ne (tgt := 49) hx0 hb d_ES_told_39 (by decide) (fun c4 => ?_) (fun c4 => ?_)
      · replace h := (if_neg c4).symm.trans h
        refine lv_lload_n hx0 hb d_ES_told_49 rfl (lv_at hl 2 rfl) ?_
        refine lv_lload hx0 hb d_ES_told_50 (lv_at hl 0 rfl) ?_
        obtain ⟨hn5, h⟩ := chk_some h
        refine lv_ldiv hx0 hb d_ES_told_52 (of_decide_eq_true hn5) ?_
        cases h
        exact z_lretC hx0 hb hr hZ hlocks hQ d_ES_told_53
      · replace h := (if_pos c4).symm.trans h
        refine lv_lload_n hx0 hb d_ES_told_42 rfl (lv_at hl 1 rfl) ?_
        refine lv_lload hx0 hb d_ES_told_43 (lv_at hl 0 rfl) ?_
        obtain ⟨hn6, h⟩ := chk_some h
        refine lv_ldiv hx0 hb d_ES_told_45 (of_decide_eq_true hn6) ?_
        refine lv_goto (tgt := 53) hx0 hb d_ES_told_46 (by decide) ?_
        cases h
        exact z_lretC hx0 hb hr hZ hlocks hQ d_ES_told_53
    · replace h := (if_neg c3).symm.trans h
      refine lv_ldc2 (v := (-1000000000000 : Int64)) hx0 hb hown (hts _ wk_ES_114) d_ES_told_33 ?_
      cases h
      exact z_lretC hx0 hb hr hZ hlocks hQ d_ES_told_36
  · replace h := (if_neg c1).symm.trans h
    cases h
set_option maxHeartbeats 4000000 in
set_option maxRecDepth 100000 in
theorem cx_ES_told (l : Launch) (hfl : l.flags = pinnedFlags ++ [noTraceFlag]) (G : zG) (a0 : Int64) (a2 : Int64) (a4 : Int32) (M : Mem) (h : p_ES_told a0 a2 a4 M = some none) : MetX l G y_ES_told (Cond.code y_ES_told b_ES_told 7 (some .long) :: zws) rmx_ES_told [.long a0, .long a2, .int a4] M M := by
  unfold p_ES_told at h
  refine z_ofX hfl (lv := [(0, .long a0), (2, .long a2), (4, .int a4)]) (by decide) (Nat.le_of_ble_eq_true rfl) rfl (fun p e R s m args below meth c Q N0 ls F hl hZ => ?_)
  obtain ⟨hx0, hb, hml, hr, hts, hown, hlocks, rfl, hQ, hemp, htr, hN, hNG, hX⟩ := F
  refine lv_lload_n hx0 hb d_ES_told_0 rfl (lv_at hl 1 rfl) ?_
  refine lv_lconst (v := (0 : Int64)) hx0 hb d_ES_told_1 (by decide) ?_
  refine W.lcmp hx0 hb d_ES_told_2 ?_
  refine lv_if_gt (tgt := 16) hx0 hb d_ES_told_3 (by decide) (fun c1 => ?_) (fun c1 => ?_)
  · replace h := (if_pos c1).symm.trans h
    refine lv_lload_n hx0 hb d_ES_told_16 rfl (lv_at hl 0 rfl) ?_
    refine m_abs_long_ES hx0 hb hml hts hown hl ⟨Nat.le_of_ble_eq_true rfl, Nat.le_of_ble_eq_true rfl⟩ (Nat.le_of_ble_eq_true rfl) d_ES_told_17 ?_
    refine lv_lload_n hx0 hb d_ES_told_20 rfl (lv_at hl 1 rfl) ?_
    obtain ⟨q2, hc7, h⟩ := bnd_some h
    refine k_ES_ES_commonDivisor [.long (if 0 < a0 then a0 else -a0), .long a2] hx0 hb hml hts hown (c_ES_commonDivisor l G (if 0 < a0 then a0 else -a0) a2 M q2 hc7) hZ rfl rfl ⟨Nat.le_of_ble_eq_true rfl, Nat.le_of_ble_eq_true rfl⟩ hl.1 rfl (Nat.le_of_ble_eq_true rfl) d_ES_told_21 (fun H locs hZ => ?_)
    refine lv_lstore (lv' := [(5, .long q2), (0, .long a0), (2, .long a2), (4, .int a4)]) hx0 hb d_ES_told_24 hl (by decide) rfl (fun ls hl => ?_)
    refine lv_lload hx0 hb d_ES_told_26 (lv_at hl 0 rfl) ?_
    refine lv_lconst (v := (0 : Int64)) hx0 hb d_ES_told_28 (by decide) ?_
    refine W.lcmp hx0 hb d_ES_told_29 ?_
    refine lv_if_gt (tgt := 37) hx0 hb d_ES_told_30 (by decide) (fun c3 => ?_) (fun c3 => ?_)
    · replace h := (if_pos c3).symm.trans h
      refine lv_iload hx0 hb d_ES_told_37 (lv_at hl 3 rfl) ?_
      refine lv_if_ne (tgt := 49) hx0 hb d_ES_told_39 (by decide) (fun c4 => ?_) (fun c4 => ?_)
      · replace h := (if_neg c4).symm.trans h
        refine lv_lload_n hx0 hb d_ES_told_49 rfl (lv_at hl 2 rfl) ?_
        refine lv_lload hx0 hb d_ES_told_50 (lv_at hl 0 rfl) ?_
        obtain ⟨hn5, h⟩ := chk_some h
        refine lv_ldiv hx0 hb d_ES_told_52 (of_decide_eq_true hn5) ?_
        cases h
      · replace h := (if_pos c4).symm.trans h
        refine lv_lload_n hx0 hb d_ES_told_42 rfl (lv_at hl 1 rfl) ?_
        refine lv_lload hx0 hb d_ES_told_43 (lv_at hl 0 rfl) ?_
        obtain ⟨hn6, h⟩ := chk_some h
        refine lv_ldiv hx0 hb d_ES_told_45 (of_decide_eq_true hn6) ?_
        refine lv_goto (tgt := 53) hx0 hb d_ES_told_46 (by decide) ?_
        cases h
    · replace h := (if_neg c3).symm.trans h
      refine lv_ldc2 (v := (-1000000000000 : Int64)) hx0 hb hown (hts _ wk_ES_114) d_ES_told_33 ?_
      cases h
  · replace h := (if_neg c1).symm.trans h
    cases h
    exact zx_throw hx0 hb hml hts hown hlocks hQ hemp htr hX hZ hl.1 ⟨Nat.le_of_ble_eq_true rfl, Nat.le_of_ble_eq_true rfl⟩ (Nat.le_of_ble_eq_true rfl) (Nat.le_of_ble_eq_true rfl) d_ES_told_6 d_ES_told_9 d_ES_told_10 d_ES_told_12 d_ES_told_15
abbrev rm_ES_both : Room := ({ frames := 5, cells := 0, slots := 0, locals := 126 } : Room)
abbrev rmx_ES_both : Room := { frames := 7, cells := 1, slots := 6, locals := 126 }
set_option maxHeartbeats 4000000 in
set_option maxRecDepth 100000 in
theorem c_ES_both (l : Launch) (G : zG) (a1 : Int32) (a2 : Int32) (a3 : Int32) (M : Mem) (r : Int64) (M2 : Mem) (h : p_ES_both a1 a2 a3 M = some (some r, M2)) : MetZC l G y_ES_both (Cond.code y_ES_both b_ES_both 6 (some .long) :: zws) rm_ES_both [.ref (G.1 0), .int a1, .int a2, .int a3] M (some (.long r)) M2 := by
  unfold p_ES_both at h
  refine z_ofWC (lv := [(0, .ref (G.1 0)), (1, .int a1), (2, .int a2), (3, .int a3)]) (by decide) (Nat.le_of_ble_eq_true rfl) rfl (fun p e R s m args below meth c Q ls F hl hZ => ?_)
  obtain ⟨hx0, hb, hml, hr, hts, hown, hlocks, rfl, hQ⟩ := F
  refine lv_aload_n hx0 hb d_ES_both_0 rfl (lv_at hl 0 rfl) ?_
  refine lv_iload_n hx0 hb d_ES_both_1 rfl (lv_at hl 1 rfl) ?_
  obtain ⟨q1, hc22, h⟩ := bnd_some h
  refine k_ES_ES_isColumn [.int a1] hx0 hb hml hts hown (c_ES_isColumn l G a1 M q1 hc22) hZ rfl rfl ⟨Nat.le_of_ble_eq_true rfl, Nat.le_of_ble_eq_true rfl⟩ hl.1 rfl (Nat.le_of_ble_eq_true rfl) d_ES_both_2 (fun H locs hZ => ?_)
  refine lv_if_eq (tgt := 23) hx0 hb d_ES_both_5 (by decide) (fun c2 => ?_) (fun c2 => ?_)
  · replace h := (if_pos c2).symm.trans h
    refine lv_ldc2 (v := (-1000000000000 : Int64)) hx0 hb hown (hts _ wk_ES_114) d_ES_both_23 ?_
    cases h
    exact z_lretC hx0 hb hr hZ hlocks hQ d_ES_both_26
  · replace h := (if_neg c2).symm.trans h
    refine lv_aload_n hx0 hb d_ES_both_8 rfl (lv_at hl 0 rfl) ?_
    refine lv_iload_n hx0 hb d_ES_both_9 rfl (lv_at hl 2 rfl) ?_
    obtain ⟨q3, hc21, h⟩ := bnd_some h
    refine k_ES_ES_isColumn [.int a2] hx0 hb hml hts hown (c_ES_isColumn l G a2 M q3 hc21) hZ rfl rfl ⟨Nat.le_of_ble_eq_true rfl, Nat.le_of_ble_eq_true rfl⟩ hl.1 rfl (Nat.le_of_ble_eq_true rfl) d_ES_both_10 (fun H locs hZ => ?_)
    refine lv_if_eq (tgt := 23) hx0 hb d_ES_both_13 (by decide) (fun c4 => ?_) (fun c4 => ?_)
    · replace h := (if_pos c4).symm.trans h
      refine lv_ldc2 (v := (-1000000000000 : Int64)) hx0 hb hown (hts _ wk_ES_114) d_ES_both_23 ?_
      cases h
      exact z_lretC hx0 hb hr hZ hlocks hQ d_ES_both_26
    · replace h := (if_neg c4).symm.trans h
      refine lv_iload_n hx0 hb d_ES_both_16 rfl (lv_at hl 3 rfl) ?_
      obtain ⟨q5, hc20, h⟩ := bnd_some h
      refine k_ES_ES_isPart [.int a3] hx0 hb hml hts hown (c_ES_isPart l G a3 M q5 hc20) hZ rfl rfl ⟨Nat.le_of_ble_eq_true rfl, Nat.le_of_ble_eq_true rfl⟩ hl.1 rfl (Nat.le_of_ble_eq_true rfl) d_ES_both_17 (fun H locs hZ => ?_)
      refine lv_if_ne (tgt := 27) hx0 hb d_ES_both_20 (by decide) (fun c6 => ?_) (fun c6 => ?_)
      · replace h := (if_neg c6).symm.trans h
        refine lv_aload_n hx0 hb d_ES_both_27 rfl (lv_at hl 0 rfl) ?_
        refine fg_ES_groups hx0 hb hts hown hZ d_ES_both_28 ?_
        refine lv_iload_n hx0 hb d_ES_both_31 rfl (lv_at hl 1 rfl) ?_
        obtain ⟨q7, hc19, h⟩ := bnd_some h
        refine k_ES_Gr_ofColumn [.int a1] hx0 hb hml hts hown (c_Gr_ofColumn l G a1 M q7 hc19) hZ rfl rfl ⟨Nat.le_of_ble_eq_true rfl, Nat.le_of_ble_eq_true rfl⟩ hl.1 rfl (Nat.le_of_ble_eq_true rfl) d_ES_both_32 (fun H locs hZ => ?_)
        refine lv_istore (lv' := [(4, .int q7), (0, .ref (G.1 0)), (1, .int a1), (2, .int a2), (3, .int a3)]) hx0 hb d_ES_both_35 hl (by decide) rfl (fun ls hl => ?_)
        refine lv_aload_n hx0 hb d_ES_both_37 rfl (lv_at hl 1 rfl) ?_
        refine fg_ES_groups hx0 hb hts hown hZ d_ES_both_38 ?_
        refine lv_iload_n hx0 hb d_ES_both_41 rfl (lv_at hl 3 rfl) ?_
        obtain ⟨q8, hc18, h⟩ := bnd_some h
        refine k_ES_Gr_ofColumn [.int a2] hx0 hb hml hts hown (c_Gr_ofColumn l G a2 M q8 hc18) hZ rfl rfl ⟨Nat.le_of_ble_eq_true rfl, Nat.le_of_ble_eq_true rfl⟩ hl.1 rfl (Nat.le_of_ble_eq_true rfl) d_ES_both_42 (fun H locs hZ => ?_)
        refine lv_istore (lv' := [(5, .int q8), (4, .int q7), (0, .ref (G.1 0)), (1, .int a1), (2, .int a2), (3, .int a3)]) hx0 hb d_ES_both_45 hl (by decide) rfl (fun ls hl => ?_)
        refine lv_iload hx0 hb d_ES_both_47 (lv_at hl 1 rfl) ?_
        refine lv_iload hx0 hb d_ES_both_49 (lv_at hl 0 rfl) ?_
        refine lv_icmp_ne (tgt := 58) hx0 hb d_ES_both_51 (by decide) (fun c9 => ?_) (fun c9 => ?_)
        · replace h := (if_neg c9).symm.trans h
          refine lv_aload_n hx0 hb d_ES_both_58 rfl (lv_at hl 2 rfl) ?_
          refine fg_ES_means hx0 hb hts hown hZ d_ES_both_59 ?_
          refine lv_iload hx0 hb d_ES_both_62 (lv_at hl 1 rfl) ?_
          refine lv_iload hx0 hb d_ES_both_64 (lv_at hl 0 rfl) ?_
          obtain ⟨q10, hc17, h⟩ := bnd_some h
          refine k_ES_Me_togetherSum [.int q7, .int q8] hx0 hb hml hts hown (c_Me_togetherSum l G q7 q8 M q10 hc17) hZ rfl rfl ⟨Nat.le_of_ble_eq_true rfl, Nat.le_of_ble_eq_true rfl⟩ hl.1 rfl (Nat.le_of_ble_eq_true rfl) d_ES_both_66 (fun H locs hZ => ?_)
          refine lv_aload_n hx0 hb d_ES_both_69 rfl (lv_at hl 2 rfl) ?_
          refine fg_ES_means hx0 hb hts hown hZ d_ES_both_70 ?_
          obtain ⟨q11, hc16, h⟩ := bnd_some h
          refine k_ES_Me_togetherWays [] hx0 hb hml hts hown (c_Me_togetherWays l G  q10.2 q11 hc16) hZ rfl rfl ⟨Nat.le_of_ble_eq_true rfl, Nat.le_of_ble_eq_true rfl⟩ hl.1 rfl (Nat.le_of_ble_eq_true rfl) d_ES_both_73 (fun H locs hZ => ?_)
          refine lv_aload_n hx0 hb d_ES_both_76 rfl (lv_at hl 2 rfl) ?_
          refine fg_ES_rows hx0 hb hts hown hZ d_ES_both_77 ?_
          obtain ⟨q12, hc15, h⟩ := bnd_some h
          refine k_ES_Rw_count [] hx0 hb hml hts hown (c_Rw_count l G  q10.2 q12 hc15) hZ rfl rfl ⟨Nat.le_of_ble_eq_true rfl, Nat.le_of_ble_eq_true rfl⟩ hl.1 rfl (Nat.le_of_ble_eq_true rfl) d_ES_both_80 (fun H locs hZ => ?_)
          refine lv_i2l (v := Int32.toInt64 q12) hx0 hb d_ES_both_83 rfl ?_
          refine lv_lmul hx0 hb d_ES_both_84 ?_
          refine lv_iload_n hx0 hb d_ES_both_85 rfl (lv_at hl 5 rfl) ?_
          obtain ⟨q13, hc14, h⟩ := bnd_some h
          cases q13 with
          | none => cases h
          | some q13v =>
            refine k_ES_ES_told [.long q10.1, .long (q11 * (Int32.toInt64 q12)), .int a3] hx0 hb hml hts hown (c_ES_told l G q10.1 (q11 * (Int32.toInt64 q12)) a3 q10.2 q13v hc14) hZ rfl rfl ⟨Nat.le_of_ble_eq_true rfl, Nat.le_of_ble_eq_true rfl⟩ hl.1 rfl (Nat.le_of_ble_eq_true rfl) d_ES_both_86 (fun H locs hZ => ?_)
            cases h
            exact z_lretC hx0 hb hr hZ hlocks hQ d_ES_both_89
        · replace h := (if_pos c9).symm.trans h
          refine lv_ldc2 (v := (-1000000000000 : Int64)) hx0 hb hown (hts _ wk_ES_114) d_ES_both_54 ?_
          cases h
          exact z_lretC hx0 hb hr hZ hlocks hQ d_ES_both_57
      · replace h := (if_pos c6).symm.trans h
        refine lv_ldc2 (v := (-1000000000000 : Int64)) hx0 hb hown (hts _ wk_ES_114) d_ES_both_23 ?_
        cases h
        exact z_lretC hx0 hb hr hZ hlocks hQ d_ES_both_26
set_option maxHeartbeats 4000000 in
set_option maxRecDepth 100000 in
theorem cx_ES_both (l : Launch) (hfl : l.flags = pinnedFlags ++ [noTraceFlag]) (G : zG) (a1 : Int32) (a2 : Int32) (a3 : Int32) (M : Mem) (M2 : Mem) (h : p_ES_both a1 a2 a3 M = some (none, M2)) : MetX l G y_ES_both (Cond.code y_ES_both b_ES_both 6 (some .long) :: zws) rmx_ES_both [.ref (G.1 0), .int a1, .int a2, .int a3] M M2 := by
  unfold p_ES_both at h
  refine z_ofX hfl (lv := [(0, .ref (G.1 0)), (1, .int a1), (2, .int a2), (3, .int a3)]) (by decide) (Nat.le_of_ble_eq_true rfl) rfl (fun p e R s m args below meth c Q N0 ls F hl hZ => ?_)
  obtain ⟨hx0, hb, hml, hr, hts, hown, hlocks, rfl, hQ, hemp, htr, hN, hNG, hX⟩ := F
  refine lv_aload_n hx0 hb d_ES_both_0 rfl (lv_at hl 0 rfl) ?_
  refine lv_iload_n hx0 hb d_ES_both_1 rfl (lv_at hl 1 rfl) ?_
  obtain ⟨q1, hc22, h⟩ := bnd_some h
  refine k_ES_ES_isColumn [.int a1] hx0 hb hml hts hown (c_ES_isColumn l G a1 M q1 hc22) hZ rfl rfl ⟨Nat.le_of_ble_eq_true rfl, Nat.le_of_ble_eq_true rfl⟩ hl.1 rfl (Nat.le_of_ble_eq_true rfl) d_ES_both_2 (fun H locs hZ => ?_)
  refine lv_if_eq (tgt := 23) hx0 hb d_ES_both_5 (by decide) (fun c2 => ?_) (fun c2 => ?_)
  · replace h := (if_pos c2).symm.trans h
    refine lv_ldc2 (v := (-1000000000000 : Int64)) hx0 hb hown (hts _ wk_ES_114) d_ES_both_23 ?_
    cases h
  · replace h := (if_neg c2).symm.trans h
    refine lv_aload_n hx0 hb d_ES_both_8 rfl (lv_at hl 0 rfl) ?_
    refine lv_iload_n hx0 hb d_ES_both_9 rfl (lv_at hl 2 rfl) ?_
    obtain ⟨q3, hc21, h⟩ := bnd_some h
    refine k_ES_ES_isColumn [.int a2] hx0 hb hml hts hown (c_ES_isColumn l G a2 M q3 hc21) hZ rfl rfl ⟨Nat.le_of_ble_eq_true rfl, Nat.le_of_ble_eq_true rfl⟩ hl.1 rfl (Nat.le_of_ble_eq_true rfl) d_ES_both_10 (fun H locs hZ => ?_)
    refine lv_if_eq (tgt := 23) hx0 hb d_ES_both_13 (by decide) (fun c4 => ?_) (fun c4 => ?_)
    · replace h := (if_pos c4).symm.trans h
      refine lv_ldc2 (v := (-1000000000000 : Int64)) hx0 hb hown (hts _ wk_ES_114) d_ES_both_23 ?_
      cases h
    · replace h := (if_neg c4).symm.trans h
      refine lv_iload_n hx0 hb d_ES_both_16 rfl (lv_at hl 3 rfl) ?_
      obtain ⟨q5, hc20, h⟩ := bnd_some h
      refine k_ES_ES_isPart [.int a3] hx0 hb hml hts hown (c_ES_isPart l G a3 M q5 hc20) hZ rfl rfl ⟨Nat.le_of_ble_eq_true rfl, Nat.le_of_ble_eq_true rfl⟩ hl.1 rfl (Nat.le_of_ble_eq_true rfl) d_ES_both_17 (fun H locs hZ => ?_)
      refine lv_if_ne (tgt := 27) hx0 hb d_ES_both_20 (by decide) (fun c6 => ?_) (fun c6 => ?_)
      · replace h := (if_neg c6).symm.trans h
        refine lv_aload_n hx0 hb d_ES_both_27 rfl (lv_at hl 0 rfl) ?_
        refine fg_ES_groups hx0 hb hts hown hZ d_ES_both_28 ?_
        refine lv_iload_n hx0 hb d_ES_both_31 rfl (lv_at hl 1 rfl) ?_
        obtain ⟨q7, hc19, h⟩ := bnd_some h
        refine k_ES_Gr_ofColumn [.int a1] hx0 hb hml hts hown (c_Gr_ofColumn l G a1 M q7 hc19) hZ rfl rfl ⟨Nat.le_of_ble_eq_true rfl, Nat.le_of_ble_eq_true rfl⟩ hl.1 rfl (Nat.le_of_ble_eq_true rfl) d_ES_both_32 (fun H locs hZ => ?_)
        refine lv_istore (lv' := [(4, .int q7), (0, .ref (G.1 0)), (1, .int a1), (2, .int a2), (3, .int a3)]) hx0 hb d_ES_both_35 hl (by decide) rfl (fun ls hl => ?_)
        refine lv_aload_n hx0 hb d_ES_both_37 rfl (lv_at hl 1 rfl) ?_
        refine fg_ES_groups hx0 hb hts hown hZ d_ES_both_38 ?_
        refine lv_iload_n hx0 hb d_ES_both_41 rfl (lv_at hl 3 rfl) ?_
        obtain ⟨q8, hc18, h⟩ := bnd_some h
        refine k_ES_Gr_ofColumn [.int a2] hx0 hb hml hts hown (c_Gr_ofColumn l G a2 M q8 hc18) hZ rfl rfl ⟨Nat.le_of_ble_eq_true rfl, Nat.le_of_ble_eq_true rfl⟩ hl.1 rfl (Nat.le_of_ble_eq_true rfl) d_ES_both_42 (fun H locs hZ => ?_)
        refine lv_istore (lv' := [(5, .int q8), (4, .int q7), (0, .ref (G.1 0)), (1, .int a1), (2, .int a2), (3, .int a3)]) hx0 hb d_ES_both_45 hl (by decide) rfl (fun ls hl => ?_)
        refine lv_iload hx0 hb d_ES_both_47 (lv_at hl 1 rfl) ?_
        refine lv_iload hx0 hb d_ES_both_49 (lv_at hl 0 rfl) ?_
        refine lv_icmp_ne (tgt := 58) hx0 hb d_ES_both_51 (by decide) (fun c9 => ?_) (fun c9 => ?_)
        · replace h := (if_neg c9).symm.trans h
          refine lv_aload_n hx0 hb d_ES_both_58 rfl (lv_at hl 2 rfl) ?_
          refine fg_ES_means hx0 hb hts hown hZ d_ES_both_59 ?_
          refine lv_iload hx0 hb d_ES_both_62 (lv_at hl 1 rfl) ?_
          refine lv_iload hx0 hb d_ES_both_64 (lv_at hl 0 rfl) ?_
          obtain ⟨q10, hc17, h⟩ := bnd_some h
          refine k_ES_Me_togetherSum [.int q7, .int q8] hx0 hb hml hts hown (c_Me_togetherSum l G q7 q8 M q10 hc17) hZ rfl rfl ⟨Nat.le_of_ble_eq_true rfl, Nat.le_of_ble_eq_true rfl⟩ hl.1 rfl (Nat.le_of_ble_eq_true rfl) d_ES_both_66 (fun H locs hZ => ?_)
          refine lv_aload_n hx0 hb d_ES_both_69 rfl (lv_at hl 2 rfl) ?_
          refine fg_ES_means hx0 hb hts hown hZ d_ES_both_70 ?_
          obtain ⟨q11, hc16, h⟩ := bnd_some h
          refine k_ES_Me_togetherWays [] hx0 hb hml hts hown (c_Me_togetherWays l G  q10.2 q11 hc16) hZ rfl rfl ⟨Nat.le_of_ble_eq_true rfl, Nat.le_of_ble_eq_true rfl⟩ hl.1 rfl (Nat.le_of_ble_eq_true rfl) d_ES_both_73 (fun H locs hZ => ?_)
          refine lv_aload_n hx0 hb d_ES_both_76 rfl (lv_at hl 2 rfl) ?_
          refine fg_ES_rows hx0 hb hts hown hZ d_ES_both_77 ?_
          obtain ⟨q12, hc15, h⟩ := bnd_some h
          refine k_ES_Rw_count [] hx0 hb hml hts hown (c_Rw_count l G  q10.2 q12 hc15) hZ rfl rfl ⟨Nat.le_of_ble_eq_true rfl, Nat.le_of_ble_eq_true rfl⟩ hl.1 rfl (Nat.le_of_ble_eq_true rfl) d_ES_both_80 (fun H locs hZ => ?_)
          refine lv_i2l (v := Int32.toInt64 q12) hx0 hb d_ES_both_83 rfl ?_
          refine lv_lmul hx0 hb d_ES_both_84 ?_
          refine lv_iload_n hx0 hb d_ES_both_85 rfl (lv_at hl 5 rfl) ?_
          obtain ⟨q13, hc14, h⟩ := bnd_some h
          cases q13 with
          | some q13v => cases h
          | none =>
            cases h
            exact zx_static (n := 3) [.long q10.1, .long (q11 * (Int32.toInt64 q12)), .int a3] hx0 hb hml hts hown (cx_ES_told l hfl G q10.1 (q11 * (Int32.toInt64 q12)) a3 q10.2 hc14) wc_ES_told wini_ES wst_ES_told wm_ES_130 (by decide +kernel) hZ hN hNG hX hlocks hQ hemp rfl rfl ⟨Nat.le_of_ble_eq_true rfl, Nat.le_of_ble_eq_true rfl⟩ ⟨Nat.le_of_ble_eq_true rfl, Nat.le_of_ble_eq_true rfl⟩ hl.1 rfl (Nat.le_of_ble_eq_true rfl) d_ES_both_86
        · replace h := (if_pos c9).symm.trans h
          refine lv_ldc2 (v := (-1000000000000 : Int64)) hx0 hb hown (hts _ wk_ES_114) d_ES_both_54 ?_
          cases h
      · replace h := (if_pos c6).symm.trans h
        refine lv_ldc2 (v := (-1000000000000 : Int64)) hx0 hb hown (hts _ wk_ES_114) d_ES_both_23 ?_
        cases h
abbrev rm_ES_partial : Room := ({ frames := 4, cells := 0, slots := 0, locals := 97 } : Room)
abbrev rmx_ES_partial : Room := { frames := 7, cells := 1, slots := 6, locals := 116 }
set_option maxHeartbeats 4000000 in
set_option maxRecDepth 100000 in
theorem c_ES_partial (l : Launch) (G : zG) (a1 : Int32) (a2 : Int32) (a3 : Int32) (M : Mem) (r : Int64) (M2 : Mem) (h : p_ES_partial a1 a2 a3 M = some (some r, M2)) : MetZC l G y_ES_partial (Cond.code y_ES_partial b_ES_partial 4 (some .long) :: zws) rm_ES_partial [.ref (G.1 0), .int a1, .int a2, .int a3] M (some (.long r)) M2 := by
  unfold p_ES_partial at h
  refine z_ofWC (lv := [(0, .ref (G.1 0)), (1, .int a1), (2, .int a2), (3, .int a3)]) (by decide) (Nat.le_of_ble_eq_true rfl) rfl (fun p e R s m args below meth c Q ls F hl hZ => ?_)
  obtain ⟨hx0, hb, hml, hr, hts, hown, hlocks, rfl, hQ⟩ := F
  refine lv_aload_n hx0 hb d_ES_partial_0 rfl (lv_at hl 0 rfl) ?_
  refine lv_iload_n hx0 hb d_ES_partial_1 rfl (lv_at hl 1 rfl) ?_
  obtain ⟨q1, hc15, h⟩ := bnd_some h
  refine k_ES_ES_isColumn [.int a1] hx0 hb hml hts hown (c_ES_isColumn l G a1 M q1 hc15) hZ rfl rfl ⟨Nat.le_of_ble_eq_true rfl, Nat.le_of_ble_eq_true rfl⟩ hl.1 rfl (Nat.le_of_ble_eq_true rfl) d_ES_partial_2 (fun H locs hZ => ?_)
  refine lv_if_eq (tgt := 24) hx0 hb d_ES_partial_5 (by decide) (fun c2 => ?_) (fun c2 => ?_)
  · replace h := (if_pos c2).symm.trans h
    refine lv_ldc2 (v := (-1000000000000 : Int64)) hx0 hb hown (hts _ wk_ES_114) d_ES_partial_24 ?_
    cases h
    exact z_lretC hx0 hb hr hZ hlocks hQ d_ES_partial_27
  · replace h := (if_neg c2).symm.trans h
    refine lv_iload_n hx0 hb d_ES_partial_8 rfl (lv_at hl 3 rfl) ?_
    obtain ⟨q3, hc14, h⟩ := bnd_some h
    refine k_ES_ES_isPart [.int a3] hx0 hb hml hts hown (c_ES_isPart l G a3 M q3 hc14) hZ rfl rfl ⟨Nat.le_of_ble_eq_true rfl, Nat.le_of_ble_eq_true rfl⟩ hl.1 rfl (Nat.le_of_ble_eq_true rfl) d_ES_partial_9 (fun H locs hZ => ?_)
    refine lv_if_eq (tgt := 24) hx0 hb d_ES_partial_12 (by decide) (fun c4 => ?_) (fun c4 => ?_)
    · replace h := (if_pos c4).symm.trans h
      refine lv_ldc2 (v := (-1000000000000 : Int64)) hx0 hb hown (hts _ wk_ES_114) d_ES_partial_24 ?_
      cases h
      exact z_lretC hx0 hb hr hZ hlocks hQ d_ES_partial_27
    · replace h := (if_neg c4).symm.trans h
      refine lv_iload_n hx0 hb d_ES_partial_15 rfl (lv_at hl 2 rfl) ?_
      refine lv_bipush (v := (100 : Int32)) hx0 hb d_ES_partial_16 (by decide) ?_
      obtain ⟨q5, hc13, h⟩ := bnd_some h
      refine k_ES_ES_isWithin [.int a2, .int (100 : Int32)] hx0 hb hml hts hown (c_ES_isWithin l G a2 (100 : Int32) M q5 hc13) hZ rfl rfl ⟨Nat.le_of_ble_eq_true rfl, Nat.le_of_ble_eq_true rfl⟩ hl.1 rfl (Nat.le_of_ble_eq_true rfl) d_ES_partial_18 (fun H locs hZ => ?_)
      refine lv_if_ne (tgt := 28) hx0 hb d_ES_partial_21 (by decide) (fun c6 => ?_) (fun c6 => ?_)
      · replace h := (if_neg c6).symm.trans h
        refine lv_aload_n hx0 hb d_ES_partial_28 rfl (lv_at hl 0 rfl) ?_
        refine fg_ES_means hx0 hb hts hown hZ d_ES_partial_29 ?_
        refine lv_iload_n hx0 hb d_ES_partial_32 rfl (lv_at hl 1 rfl) ?_
        refine lv_iload_n hx0 hb d_ES_partial_33 rfl (lv_at hl 2 rfl) ?_
        obtain ⟨q7, hc12, h⟩ := bnd_some h
        refine k_ES_Me_replacedSum [.int a1, .int a2] hx0 hb hml hts hown (c_Me_replacedSum l G a1 a2 M q7 hc12) hZ rfl rfl ⟨Nat.le_of_ble_eq_true rfl, Nat.le_of_ble_eq_true rfl⟩ hl.1 rfl (Nat.le_of_ble_eq_true rfl) d_ES_partial_34 (fun H locs hZ => ?_)
        refine lv_aload_n hx0 hb d_ES_partial_37 rfl (lv_at hl 0 rfl) ?_
        refine fg_ES_rows hx0 hb hts hown hZ d_ES_partial_38 ?_
        obtain ⟨q8, hc11, h⟩ := bnd_some h
        refine k_ES_Rw_count [] hx0 hb hml hts hown (c_Rw_count l G  q7.2 q8 hc11) hZ rfl rfl ⟨Nat.le_of_ble_eq_true rfl, Nat.le_of_ble_eq_true rfl⟩ hl.1 rfl (Nat.le_of_ble_eq_true rfl) d_ES_partial_41 (fun H locs hZ => ?_)
        refine lv_i2l (v := Int32.toInt64 q8) hx0 hb d_ES_partial_44 rfl ?_
        refine lv_iload_n hx0 hb d_ES_partial_45 rfl (lv_at hl 3 rfl) ?_
        obtain ⟨q9, hc10, h⟩ := bnd_some h
        cases q9 with
        | none => cases h
        | some q9v =>
          refine k_ES_ES_told [.long q7.1, .long (Int32.toInt64 q8), .int a3] hx0 hb hml hts hown (c_ES_told l G q7.1 (Int32.toInt64 q8) a3 q7.2 q9v hc10) hZ rfl rfl ⟨Nat.le_of_ble_eq_true rfl, Nat.le_of_ble_eq_true rfl⟩ hl.1 rfl (Nat.le_of_ble_eq_true rfl) d_ES_partial_46 (fun H locs hZ => ?_)
          cases h
          exact z_lretC hx0 hb hr hZ hlocks hQ d_ES_partial_49
      · replace h := (if_pos c6).symm.trans h
        refine lv_ldc2 (v := (-1000000000000 : Int64)) hx0 hb hown (hts _ wk_ES_114) d_ES_partial_24 ?_
        cases h
        exact z_lretC hx0 hb hr hZ hlocks hQ d_ES_partial_27
set_option maxHeartbeats 4000000 in
set_option maxRecDepth 100000 in
theorem cx_ES_partial (l : Launch) (hfl : l.flags = pinnedFlags ++ [noTraceFlag]) (G : zG) (a1 : Int32) (a2 : Int32) (a3 : Int32) (M : Mem) (M2 : Mem) (h : p_ES_partial a1 a2 a3 M = some (none, M2)) : MetX l G y_ES_partial (Cond.code y_ES_partial b_ES_partial 4 (some .long) :: zws) rmx_ES_partial [.ref (G.1 0), .int a1, .int a2, .int a3] M M2 := by
  unfold p_ES_partial at h
  refine z_ofX hfl (lv := [(0, .ref (G.1 0)), (1, .int a1), (2, .int a2), (3, .int a3)]) (by decide) (Nat.le_of_ble_eq_true rfl) rfl (fun p e R s m args below meth c Q N0 ls F hl hZ => ?_)
  obtain ⟨hx0, hb, hml, hr, hts, hown, hlocks, rfl, hQ, hemp, htr, hN, hNG, hX⟩ := F
  refine lv_aload_n hx0 hb d_ES_partial_0 rfl (lv_at hl 0 rfl) ?_
  refine lv_iload_n hx0 hb d_ES_partial_1 rfl (lv_at hl 1 rfl) ?_
  obtain ⟨q1, hc15, h⟩ := bnd_some h
  refine k_ES_ES_isColumn [.int a1] hx0 hb hml hts hown (c_ES_isColumn l G a1 M q1 hc15) hZ rfl rfl ⟨Nat.le_of_ble_eq_true rfl, Nat.le_of_ble_eq_true rfl⟩ hl.1 rfl (Nat.le_of_ble_eq_true rfl) d_ES_partial_2 (fun H locs hZ => ?_)
  refine lv_if_eq (tgt := 24) hx0 hb d_ES_partial_5 (by decide) (fun c2 => ?_) (fun c2 => ?_)
  · replace h := (if_pos c2).symm.trans h
    refine lv_ldc2 (v := (-1000000000000 : Int64)) hx0 hb hown (hts _ wk_ES_114) d_ES_partial_24 ?_
    cases h
  · replace h := (if_neg c2).symm.trans h
    refine lv_iload_n hx0 hb d_ES_partial_8 rfl (lv_at hl 3 rfl) ?_
    obtain ⟨q3, hc14, h⟩ := bnd_some h
    refine k_ES_ES_isPart [.int a3] hx0 hb hml hts hown (c_ES_isPart l G a3 M q3 hc14) hZ rfl rfl ⟨Nat.le_of_ble_eq_true rfl, Nat.le_of_ble_eq_true rfl⟩ hl.1 rfl (Nat.le_of_ble_eq_true rfl) d_ES_partial_9 (fun H locs hZ => ?_)
    refine lv_if_eq (tgt := 24) hx0 hb d_ES_partial_12 (by decide) (fun c4 => ?_) (fun c4 => ?_)
    · replace h := (if_pos c4).symm.trans h
      refine lv_ldc2 (v := (-1000000000000 : Int64)) hx0 hb hown (hts _ wk_ES_114) d_ES_partial_24 ?_
      cases h
    · replace h := (if_neg c4).symm.trans h
      refine lv_iload_n hx0 hb d_ES_partial_15 rfl (lv_at hl 2 rfl) ?_
      refine lv_bipush (v := (100 : Int32)) hx0 hb d_ES_partial_16 (by decide) ?_
      obtain ⟨q5, hc13, h⟩ := bnd_some h
      refine k_ES_ES_isWithin [.int a2, .int (100 : Int32)] hx0 hb hml hts hown (c_ES_isWithin l G a2 (100 : Int32) M q5 hc13) hZ rfl rfl ⟨Nat.le_of_ble_eq_true rfl, Nat.le_of_ble_eq_true rfl⟩ hl.1 rfl (Nat.le_of_ble_eq_true rfl) d_ES_partial_18 (fun H locs hZ => ?_)
      refine lv_if_ne (tgt := 28) hx0 hb d_ES_partial_21 (by decide) (fun c6 => ?_) (fun c6 => ?_)
      · replace h := (if_neg c6).symm.trans h
        refine lv_aload_n hx0 hb d_ES_partial_28 rfl (lv_at hl 0 rfl) ?_
        refine fg_ES_means hx0 hb hts hown hZ d_ES_partial_29 ?_
        refine lv_iload_n hx0 hb d_ES_partial_32 rfl (lv_at hl 1 rfl) ?_
        refine lv_iload_n hx0 hb d_ES_partial_33 rfl (lv_at hl 2 rfl) ?_
        obtain ⟨q7, hc12, h⟩ := bnd_some h
        refine k_ES_Me_replacedSum [.int a1, .int a2] hx0 hb hml hts hown (c_Me_replacedSum l G a1 a2 M q7 hc12) hZ rfl rfl ⟨Nat.le_of_ble_eq_true rfl, Nat.le_of_ble_eq_true rfl⟩ hl.1 rfl (Nat.le_of_ble_eq_true rfl) d_ES_partial_34 (fun H locs hZ => ?_)
        refine lv_aload_n hx0 hb d_ES_partial_37 rfl (lv_at hl 0 rfl) ?_
        refine fg_ES_rows hx0 hb hts hown hZ d_ES_partial_38 ?_
        obtain ⟨q8, hc11, h⟩ := bnd_some h
        refine k_ES_Rw_count [] hx0 hb hml hts hown (c_Rw_count l G  q7.2 q8 hc11) hZ rfl rfl ⟨Nat.le_of_ble_eq_true rfl, Nat.le_of_ble_eq_true rfl⟩ hl.1 rfl (Nat.le_of_ble_eq_true rfl) d_ES_partial_41 (fun H locs hZ => ?_)
        refine lv_i2l (v := Int32.toInt64 q8) hx0 hb d_ES_partial_44 rfl ?_
        refine lv_iload_n hx0 hb d_ES_partial_45 rfl (lv_at hl 3 rfl) ?_
        obtain ⟨q9, hc10, h⟩ := bnd_some h
        cases q9 with
        | some q9v => cases h
        | none =>
          cases h
          exact zx_static (n := 3) [.long q7.1, .long (Int32.toInt64 q8), .int a3] hx0 hb hml hts hown (cx_ES_told l hfl G q7.1 (Int32.toInt64 q8) a3 q7.2 hc10) wc_ES_told wini_ES wst_ES_told wm_ES_130 (by decide +kernel) hZ hN hNG hX hlocks hQ hemp rfl rfl ⟨Nat.le_of_ble_eq_true rfl, Nat.le_of_ble_eq_true rfl⟩ ⟨Nat.le_of_ble_eq_true rfl, Nat.le_of_ble_eq_true rfl⟩ hl.1 rfl (Nat.le_of_ble_eq_true rfl) d_ES_partial_46
      · replace h := (if_pos c6).symm.trans h
        refine lv_ldc2 (v := (-1000000000000 : Int64)) hx0 hb hown (hts _ wk_ES_114) d_ES_partial_24 ?_
        cases h
abbrev rm_ES_worth : Room := ({ frames := 4, cells := 0, slots := 0, locals := 102 } : Room)
abbrev rmx_ES_worth : Room := { frames := 7, cells := 1, slots := 6, locals := 116 }
set_option maxHeartbeats 4000000 in
set_option maxRecDepth 100000 in
theorem c_ES_worth (l : Launch) (G : zG) (a1 : Int32) (a2 : Int32) (M : Mem) (r : Int64) (M2 : Mem) (h : p_ES_worth a1 a2 M = some (some r, M2)) : MetZC l G y_ES_worth (Cond.code y_ES_worth b_ES_worth 3 (some .long) :: zws) rm_ES_worth [.ref (G.1 0), .int a1, .int a2] M (some (.long r)) M2 := by
  unfold p_ES_worth at h
  refine z_ofWC (lv := [(0, .ref (G.1 0)), (1, .int a1), (2, .int a2)]) (by decide) (Nat.le_of_ble_eq_true rfl) rfl (fun p e R s m args below meth c Q ls F hl hZ => ?_)
  obtain ⟨hx0, hb, hml, hr, hts, hown, hlocks, rfl, hQ⟩ := F
  refine lv_aload_n hx0 hb d_ES_worth_0 rfl (lv_at hl 0 rfl) ?_
  refine lv_iload_n hx0 hb d_ES_worth_1 rfl (lv_at hl 1 rfl) ?_
  obtain ⟨q1, hc14, h⟩ := bnd_some h
  refine k_ES_ES_isColumn [.int a1] hx0 hb hml hts hown (c_ES_isColumn l G a1 M q1 hc14) hZ rfl rfl ⟨Nat.le_of_ble_eq_true rfl, Nat.le_of_ble_eq_true rfl⟩ hl.1 rfl (Nat.le_of_ble_eq_true rfl) d_ES_worth_2 (fun H locs hZ => ?_)
  refine lv_if_eq (tgt := 15) hx0 hb d_ES_worth_5 (by decide) (fun c2 => ?_) (fun c2 => ?_)
  · replace h := (if_pos c2).symm.trans h
    refine lv_ldc2 (v := (-1000000000000 : Int64)) hx0 hb hown (hts _ wk_ES_114) d_ES_worth_15 ?_
    cases h
    exact z_lretC hx0 hb hr hZ hlocks hQ d_ES_worth_18
  · replace h := (if_neg c2).symm.trans h
    refine lv_iload_n hx0 hb d_ES_worth_8 rfl (lv_at hl 2 rfl) ?_
    obtain ⟨q3, hc13, h⟩ := bnd_some h
    refine k_ES_ES_isPart [.int a2] hx0 hb hml hts hown (c_ES_isPart l G a2 M q3 hc13) hZ rfl rfl ⟨Nat.le_of_ble_eq_true rfl, Nat.le_of_ble_eq_true rfl⟩ hl.1 rfl (Nat.le_of_ble_eq_true rfl) d_ES_worth_9 (fun H locs hZ => ?_)
    refine lv_if_ne (tgt := 19) hx0 hb d_ES_worth_12 (by decide) (fun c4 => ?_) (fun c4 => ?_)
    · replace h := (if_neg c4).symm.trans h
      refine lv_aload_n hx0 hb d_ES_worth_19 rfl (lv_at hl 0 rfl) ?_
      refine fg_ES_means hx0 hb hts hown hZ d_ES_worth_20 ?_
      refine lv_iload_n hx0 hb d_ES_worth_23 rfl (lv_at hl 1 rfl) ?_
      obtain ⟨q5, hc12, h⟩ := bnd_some h
      refine k_ES_Me_changeSum [.int a1] hx0 hb hml hts hown (c_Me_changeSum l G a1 M q5 hc12) hZ rfl rfl ⟨Nat.le_of_ble_eq_true rfl, Nat.le_of_ble_eq_true rfl⟩ hl.1 rfl (Nat.le_of_ble_eq_true rfl) d_ES_worth_24 (fun H locs hZ => ?_)
      refine lv_aload_n hx0 hb d_ES_worth_27 rfl (lv_at hl 0 rfl) ?_
      refine fg_ES_rows hx0 hb hts hown hZ d_ES_worth_28 ?_
      obtain ⟨q6, hc11, h⟩ := bnd_some h
      refine k_ES_Rw_count [] hx0 hb hml hts hown (c_Rw_count l G  q5.2 q6 hc11) hZ rfl rfl ⟨Nat.le_of_ble_eq_true rfl, Nat.le_of_ble_eq_true rfl⟩ hl.1 rfl (Nat.le_of_ble_eq_true rfl) d_ES_worth_31 (fun H locs hZ => ?_)
      refine lv_i2l (v := Int32.toInt64 q6) hx0 hb d_ES_worth_34 rfl ?_
      refine lv_aload_n hx0 hb d_ES_worth_35 rfl (lv_at hl 0 rfl) ?_
      refine fg_ES_rows hx0 hb hts hown hZ d_ES_worth_36 ?_
      obtain ⟨q7, hc10, h⟩ := bnd_some h
      refine k_ES_Rw_count [] hx0 hb hml hts hown (c_Rw_count l G  q5.2 q7 hc10) hZ rfl rfl ⟨Nat.le_of_ble_eq_true rfl, Nat.le_of_ble_eq_true rfl⟩ hl.1 rfl (Nat.le_of_ble_eq_true rfl) d_ES_worth_39 (fun H locs hZ => ?_)
      refine lv_i2l (v := Int32.toInt64 q7) hx0 hb d_ES_worth_42 rfl ?_
      refine lv_lmul hx0 hb d_ES_worth_43 ?_
      refine lv_iload_n hx0 hb d_ES_worth_44 rfl (lv_at hl 2 rfl) ?_
      obtain ⟨q8, hc9, h⟩ := bnd_some h
      cases q8 with
      | none => cases h
      | some q8v =>
        refine k_ES_ES_told [.long q5.1, .long ((Int32.toInt64 q6) * (Int32.toInt64 q7)), .int a2] hx0 hb hml hts hown (c_ES_told l G q5.1 ((Int32.toInt64 q6) * (Int32.toInt64 q7)) a2 q5.2 q8v hc9) hZ rfl rfl ⟨Nat.le_of_ble_eq_true rfl, Nat.le_of_ble_eq_true rfl⟩ hl.1 rfl (Nat.le_of_ble_eq_true rfl) d_ES_worth_45 (fun H locs hZ => ?_)
        cases h
        exact z_lretC hx0 hb hr hZ hlocks hQ d_ES_worth_48
    · replace h := (if_pos c4).symm.trans h
      refine lv_ldc2 (v := (-1000000000000 : Int64)) hx0 hb hown (hts _ wk_ES_114) d_ES_worth_15 ?_
      cases h
      exact z_lretC hx0 hb hr hZ hlocks hQ d_ES_worth_18
set_option maxHeartbeats 4000000 in
set_option maxRecDepth 100000 in
theorem cx_ES_worth (l : Launch) (hfl : l.flags = pinnedFlags ++ [noTraceFlag]) (G : zG) (a1 : Int32) (a2 : Int32) (M : Mem) (M2 : Mem) (h : p_ES_worth a1 a2 M = some (none, M2)) : MetX l G y_ES_worth (Cond.code y_ES_worth b_ES_worth 3 (some .long) :: zws) rmx_ES_worth [.ref (G.1 0), .int a1, .int a2] M M2 := by
  unfold p_ES_worth at h
  refine z_ofX hfl (lv := [(0, .ref (G.1 0)), (1, .int a1), (2, .int a2)]) (by decide) (Nat.le_of_ble_eq_true rfl) rfl (fun p e R s m args below meth c Q N0 ls F hl hZ => ?_)
  obtain ⟨hx0, hb, hml, hr, hts, hown, hlocks, rfl, hQ, hemp, htr, hN, hNG, hX⟩ := F
  refine lv_aload_n hx0 hb d_ES_worth_0 rfl (lv_at hl 0 rfl) ?_
  refine lv_iload_n hx0 hb d_ES_worth_1 rfl (lv_at hl 1 rfl) ?_
  obtain ⟨q1, hc14, h⟩ := bnd_some h
  refine k_ES_ES_isColumn [.int a1] hx0 hb hml hts hown (c_ES_isColumn l G a1 M q1 hc14) hZ rfl rfl ⟨Nat.le_of_ble_eq_true rfl, Nat.le_of_ble_eq_true rfl⟩ hl.1 rfl (Nat.le_of_ble_eq_true rfl) d_ES_worth_2 (fun H locs hZ => ?_)
  refine lv_if_eq (tgt := 15) hx0 hb d_ES_worth_5 (by decide) (fun c2 => ?_) (fun c2 => ?_)
  · replace h := (if_pos c2).symm.trans h
    refine lv_ldc2 (v := (-1000000000000 : Int64)) hx0 hb hown (hts _ wk_ES_114) d_ES_worth_15 ?_
    cases h
  · replace h := (if_neg c2).symm.trans h
    refine lv_iload_n hx0 hb d_ES_worth_8 rfl (lv_at hl 2 rfl) ?_
    obtain ⟨q3, hc13, h⟩ := bnd_some h
    refine k_ES_ES_isPart [.int a2] hx0 hb hml hts hown (c_ES_isPart l G a2 M q3 hc13) hZ rfl rfl ⟨Nat.le_of_ble_eq_true rfl, Nat.le_of_ble_eq_true rfl⟩ hl.1 rfl (Nat.le_of_ble_eq_true rfl) d_ES_worth_9 (fun H locs hZ => ?_)
    refine lv_if_ne (tgt := 19) hx0 hb d_ES_worth_12 (by decide) (fun c4 => ?_) (fun c4 => ?_)
    · replace h := (if_neg c4).symm.trans h
      refine lv_aload_n hx0 hb d_ES_worth_19 rfl (lv_at hl 0 rfl) ?_
      refine fg_ES_means hx0 hb hts hown hZ d_ES_worth_20 ?_
      refine lv_iload_n hx0 hb d_ES_worth_23 rfl (lv_at hl 1 rfl) ?_
      obtain ⟨q5, hc12, h⟩ := bnd_some h
      refine k_ES_Me_changeSum [.int a1] hx0 hb hml hts hown (c_Me_changeSum l G a1 M q5 hc12) hZ rfl rfl ⟨Nat.le_of_ble_eq_true rfl, Nat.le_of_ble_eq_true rfl⟩ hl.1 rfl (Nat.le_of_ble_eq_true rfl) d_ES_worth_24 (fun H locs hZ => ?_)
      refine lv_aload_n hx0 hb d_ES_worth_27 rfl (lv_at hl 0 rfl) ?_
      refine fg_ES_rows hx0 hb hts hown hZ d_ES_worth_28 ?_
      obtain ⟨q6, hc11, h⟩ := bnd_some h
      refine k_ES_Rw_count [] hx0 hb hml hts hown (c_Rw_count l G  q5.2 q6 hc11) hZ rfl rfl ⟨Nat.le_of_ble_eq_true rfl, Nat.le_of_ble_eq_true rfl⟩ hl.1 rfl (Nat.le_of_ble_eq_true rfl) d_ES_worth_31 (fun H locs hZ => ?_)
      refine lv_i2l (v := Int32.toInt64 q6) hx0 hb d_ES_worth_34 rfl ?_
      refine lv_aload_n hx0 hb d_ES_worth_35 rfl (lv_at hl 0 rfl) ?_
      refine fg_ES_rows hx0 hb hts hown hZ d_ES_worth_36 ?_
      obtain ⟨q7, hc10, h⟩ := bnd_some h
      refine k_ES_Rw_count [] hx0 hb hml hts hown (c_Rw_count l G  q5.2 q7 hc10) hZ rfl rfl ⟨Nat.le_of_ble_eq_true rfl, Nat.le_of_ble_eq_true rfl⟩ hl.1 rfl (Nat.le_of_ble_eq_true rfl) d_ES_worth_39 (fun H locs hZ => ?_)
      refine lv_i2l (v := Int32.toInt64 q7) hx0 hb d_ES_worth_42 rfl ?_
      refine lv_lmul hx0 hb d_ES_worth_43 ?_
      refine lv_iload_n hx0 hb d_ES_worth_44 rfl (lv_at hl 2 rfl) ?_
      obtain ⟨q8, hc9, h⟩ := bnd_some h
      cases q8 with
      | some q8v => cases h
      | none =>
        cases h
        exact zx_static (n := 3) [.long q5.1, .long ((Int32.toInt64 q6) * (Int32.toInt64 q7)), .int a2] hx0 hb hml hts hown (cx_ES_told l hfl G q5.1 ((Int32.toInt64 q6) * (Int32.toInt64 q7)) a2 q5.2 hc9) wc_ES_told wini_ES wst_ES_told wm_ES_130 (by decide +kernel) hZ hN hNG hX hlocks hQ hemp rfl rfl ⟨Nat.le_of_ble_eq_true rfl, Nat.le_of_ble_eq_true rfl⟩ ⟨Nat.le_of_ble_eq_true rfl, Nat.le_of_ble_eq_true rfl⟩ hl.1 rfl (Nat.le_of_ble_eq_true rfl) d_ES_worth_45
    · replace h := (if_pos c4).symm.trans h
      refine lv_ldc2 (v := (-1000000000000 : Int64)) hx0 hb hown (hts _ wk_ES_114) d_ES_worth_15 ?_
      cases h
abbrev rm_ES_value : Room := ({ frames := 3, cells := 0, slots := 0, locals := 72 } : Room)
abbrev rmx_ES_value : Room := { frames := 7, cells := 1, slots := 6, locals := 116 }
set_option maxHeartbeats 4000000 in
set_option maxRecDepth 100000 in
theorem c_ES_value (l : Launch) (G : zG) (a1 : Int32) (a2 : Int32) (M : Mem) (r : Int64) (M2 : Mem) (h : p_ES_value a1 a2 M = some (some r, M2)) : MetZC l G y_ES_value (Cond.code y_ES_value b_ES_value 3 (some .long) :: zws) rm_ES_value [.ref (G.1 0), .int a1, .int a2] M (some (.long r)) M2 := by
  unfold p_ES_value at h
  refine z_ofWC (lv := [(0, .ref (G.1 0)), (1, .int a1), (2, .int a2)]) (by decide) (Nat.le_of_ble_eq_true rfl) rfl (fun p e R s m args below meth c Q ls F hl hZ => ?_)
  obtain ⟨hx0, hb, hml, hr, hts, hown, hlocks, rfl, hQ⟩ := F
  refine lv_iload_n hx0 hb d_ES_value_0 rfl (lv_at hl 1 rfl) ?_
  refine lv_if_lt (tgt := 21) hx0 hb d_ES_value_1 (by decide) (fun c1 => ?_) (fun c1 => ?_)
  · replace h := (if_pos c1).symm.trans h
    refine lv_ldc2 (v := (-1000000000000 : Int64)) hx0 hb hown (hts _ wk_ES_114) d_ES_value_21 ?_
    cases h
    exact z_lretC hx0 hb hr hZ hlocks hQ d_ES_value_24
  · replace h := (if_neg c1).symm.trans h
    refine lv_iload_n hx0 hb d_ES_value_4 rfl (lv_at hl 1 rfl) ?_
    refine lv_iconst (v := (1 : Int32)) hx0 hb d_ES_value_5 (by decide) ?_
    refine lv_aload_n hx0 hb d_ES_value_6 rfl (lv_at hl 0 rfl) ?_
    refine fg_ES_columns hx0 hb hts hown hZ d_ES_value_7 ?_
    refine lv_ishl hx0 hb d_ES_value_10 ?_
    refine lv_icmp_ge (tgt := 21) hx0 hb d_ES_value_11 (by decide) (fun c2 => ?_) (fun c2 => ?_)
    · replace h := (if_pos c2).symm.trans h
      refine lv_ldc2 (v := (-1000000000000 : Int64)) hx0 hb hown (hts _ wk_ES_114) d_ES_value_21 ?_
      cases h
      exact z_lretC hx0 hb hr hZ hlocks hQ d_ES_value_24
    · replace h := (if_neg c2).symm.trans h
      refine lv_iload_n hx0 hb d_ES_value_14 rfl (lv_at hl 2 rfl) ?_
      obtain ⟨q3, hc11, h⟩ := bnd_some h
      refine k_ES_ES_isPart [.int a2] hx0 hb hml hts hown (c_ES_isPart l G a2 M q3 hc11) hZ rfl rfl ⟨Nat.le_of_ble_eq_true rfl, Nat.le_of_ble_eq_true rfl⟩ hl.1 rfl (Nat.le_of_ble_eq_true rfl) d_ES_value_15 (fun H locs hZ => ?_)
      refine lv_if_ne (tgt := 25) hx0 hb d_ES_value_18 (by decide) (fun c4 => ?_) (fun c4 => ?_)
      · replace h := (if_neg c4).symm.trans h
        refine lv_aload_n hx0 hb d_ES_value_25 rfl (lv_at hl 0 rfl) ?_
        refine fg_ES_means hx0 hb hts hown hZ d_ES_value_26 ?_
        refine lv_iload_n hx0 hb d_ES_value_29 rfl (lv_at hl 1 rfl) ?_
        obtain ⟨q5, hc10, h⟩ := bnd_some h
        refine k_ES_Me_total [.int a1] hx0 hb hml hts hown (c_Me_total l G a1 M q5 hc10) hZ rfl rfl ⟨Nat.le_of_ble_eq_true rfl, Nat.le_of_ble_eq_true rfl⟩ hl.1 rfl (Nat.le_of_ble_eq_true rfl) d_ES_value_30 (fun H locs hZ => ?_)
        refine lv_aload_n hx0 hb d_ES_value_33 rfl (lv_at hl 0 rfl) ?_
        refine fg_ES_rows hx0 hb hts hown hZ d_ES_value_34 ?_
        obtain ⟨q6, hc9, h⟩ := bnd_some h
        refine k_ES_Rw_count [] hx0 hb hml hts hown (c_Rw_count l G  q5.2 q6 hc9) hZ rfl rfl ⟨Nat.le_of_ble_eq_true rfl, Nat.le_of_ble_eq_true rfl⟩ hl.1 rfl (Nat.le_of_ble_eq_true rfl) d_ES_value_37 (fun H locs hZ => ?_)
        refine lv_i2l (v := Int32.toInt64 q6) hx0 hb d_ES_value_40 rfl ?_
        refine lv_iload_n hx0 hb d_ES_value_41 rfl (lv_at hl 2 rfl) ?_
        obtain ⟨q7, hc8, h⟩ := bnd_some h
        cases q7 with
        | none => cases h
        | some q7v =>
          refine k_ES_ES_told [.long q5.1, .long (Int32.toInt64 q6), .int a2] hx0 hb hml hts hown (c_ES_told l G q5.1 (Int32.toInt64 q6) a2 q5.2 q7v hc8) hZ rfl rfl ⟨Nat.le_of_ble_eq_true rfl, Nat.le_of_ble_eq_true rfl⟩ hl.1 rfl (Nat.le_of_ble_eq_true rfl) d_ES_value_42 (fun H locs hZ => ?_)
          cases h
          exact z_lretC hx0 hb hr hZ hlocks hQ d_ES_value_45
      · replace h := (if_pos c4).symm.trans h
        refine lv_ldc2 (v := (-1000000000000 : Int64)) hx0 hb hown (hts _ wk_ES_114) d_ES_value_21 ?_
        cases h
        exact z_lretC hx0 hb hr hZ hlocks hQ d_ES_value_24
set_option maxHeartbeats 4000000 in
set_option maxRecDepth 100000 in
theorem cx_ES_value (l : Launch) (hfl : l.flags = pinnedFlags ++ [noTraceFlag]) (G : zG) (a1 : Int32) (a2 : Int32) (M : Mem) (M2 : Mem) (h : p_ES_value a1 a2 M = some (none, M2)) : MetX l G y_ES_value (Cond.code y_ES_value b_ES_value 3 (some .long) :: zws) rmx_ES_value [.ref (G.1 0), .int a1, .int a2] M M2 := by
  unfold p_ES_value at h
  refine z_ofX hfl (lv := [(0, .ref (G.1 0)), (1, .int a1), (2, .int a2)]) (by decide) (Nat.le_of_ble_eq_true rfl) rfl (fun p e R s m args below meth c Q N0 ls F hl hZ => ?_)
  obtain ⟨hx0, hb, hml, hr, hts, hown, hlocks, rfl, hQ, hemp, htr, hN, hNG, hX⟩ := F
  refine lv_iload_n hx0 hb d_ES_value_0 rfl (lv_at hl 1 rfl) ?_
  refine lv_if_lt (tgt := 21) hx0 hb d_ES_value_1 (by decide) (fun c1 => ?_) (fun c1 => ?_)
  · replace h := (if_pos c1).symm.trans h
    refine lv_ldc2 (v := (-1000000000000 : Int64)) hx0 hb hown (hts _ wk_ES_114) d_ES_value_21 ?_
    cases h
  · replace h := (if_neg c1).symm.trans h
    refine lv_iload_n hx0 hb d_ES_value_4 rfl (lv_at hl 1 rfl) ?_
    refine lv_iconst (v := (1 : Int32)) hx0 hb d_ES_value_5 (by decide) ?_
    refine lv_aload_n hx0 hb d_ES_value_6 rfl (lv_at hl 0 rfl) ?_
    refine fg_ES_columns hx0 hb hts hown hZ d_ES_value_7 ?_
    refine lv_ishl hx0 hb d_ES_value_10 ?_
    refine lv_icmp_ge (tgt := 21) hx0 hb d_ES_value_11 (by decide) (fun c2 => ?_) (fun c2 => ?_)
    · replace h := (if_pos c2).symm.trans h
      refine lv_ldc2 (v := (-1000000000000 : Int64)) hx0 hb hown (hts _ wk_ES_114) d_ES_value_21 ?_
      cases h
    · replace h := (if_neg c2).symm.trans h
      refine lv_iload_n hx0 hb d_ES_value_14 rfl (lv_at hl 2 rfl) ?_
      obtain ⟨q3, hc11, h⟩ := bnd_some h
      refine k_ES_ES_isPart [.int a2] hx0 hb hml hts hown (c_ES_isPart l G a2 M q3 hc11) hZ rfl rfl ⟨Nat.le_of_ble_eq_true rfl, Nat.le_of_ble_eq_true rfl⟩ hl.1 rfl (Nat.le_of_ble_eq_true rfl) d_ES_value_15 (fun H locs hZ => ?_)
      refine lv_if_ne (tgt := 25) hx0 hb d_ES_value_18 (by decide) (fun c4 => ?_) (fun c4 => ?_)
      · replace h := (if_neg c4).symm.trans h
        refine lv_aload_n hx0 hb d_ES_value_25 rfl (lv_at hl 0 rfl) ?_
        refine fg_ES_means hx0 hb hts hown hZ d_ES_value_26 ?_
        refine lv_iload_n hx0 hb d_ES_value_29 rfl (lv_at hl 1 rfl) ?_
        obtain ⟨q5, hc10, h⟩ := bnd_some h
        refine k_ES_Me_total [.int a1] hx0 hb hml hts hown (c_Me_total l G a1 M q5 hc10) hZ rfl rfl ⟨Nat.le_of_ble_eq_true rfl, Nat.le_of_ble_eq_true rfl⟩ hl.1 rfl (Nat.le_of_ble_eq_true rfl) d_ES_value_30 (fun H locs hZ => ?_)
        refine lv_aload_n hx0 hb d_ES_value_33 rfl (lv_at hl 0 rfl) ?_
        refine fg_ES_rows hx0 hb hts hown hZ d_ES_value_34 ?_
        obtain ⟨q6, hc9, h⟩ := bnd_some h
        refine k_ES_Rw_count [] hx0 hb hml hts hown (c_Rw_count l G  q5.2 q6 hc9) hZ rfl rfl ⟨Nat.le_of_ble_eq_true rfl, Nat.le_of_ble_eq_true rfl⟩ hl.1 rfl (Nat.le_of_ble_eq_true rfl) d_ES_value_37 (fun H locs hZ => ?_)
        refine lv_i2l (v := Int32.toInt64 q6) hx0 hb d_ES_value_40 rfl ?_
        refine lv_iload_n hx0 hb d_ES_value_41 rfl (lv_at hl 2 rfl) ?_
        obtain ⟨q7, hc8, h⟩ := bnd_some h
        cases q7 with
        | some q7v => cases h
        | none =>
          cases h
          exact zx_static (n := 3) [.long q5.1, .long (Int32.toInt64 q6), .int a2] hx0 hb hml hts hown (cx_ES_told l hfl G q5.1 (Int32.toInt64 q6) a2 q5.2 hc8) wc_ES_told wini_ES wst_ES_told wm_ES_130 (by decide +kernel) hZ hN hNG hX hlocks hQ hemp rfl rfl ⟨Nat.le_of_ble_eq_true rfl, Nat.le_of_ble_eq_true rfl⟩ ⟨Nat.le_of_ble_eq_true rfl, Nat.le_of_ble_eq_true rfl⟩ hl.1 rfl (Nat.le_of_ble_eq_true rfl) d_ES_value_42
      · replace h := (if_pos c4).symm.trans h
        refine lv_ldc2 (v := (-1000000000000 : Int64)) hx0 hb hown (hts _ wk_ES_114) d_ES_value_21 ?_
        cases h
abbrev rm_ES_drawn : Room := ({ frames := 5, cells := 0, slots := 0, locals := 121 } : Room)
abbrev rmx_ES_drawn : Room := { frames := 7, cells := 1, slots := 6, locals := 121 }
set_option maxHeartbeats 4000000 in
set_option maxRecDepth 100000 in
theorem c_ES_drawn (l : Launch) (G : zG) (a1 : Int32) (a2 : Int32) (a3 : Int32) (a4 : Int32) (M : Mem) (r : Int64) (M2 : Mem) (h : p_ES_drawn a1 a2 a3 a4 M = some (some r, M2)) : MetZC l G y_ES_drawn (Cond.code y_ES_drawn b_ES_drawn 7 (some .long) :: zws) rm_ES_drawn [.ref (G.1 0), .int a1, .int a2, .int a3, .int a4] M (some (.long r)) M2 := by
  unfold p_ES_drawn at h
  refine z_ofWC (lv := [(0, .ref (G.1 0)), (1, .int a1), (2, .int a2), (3, .int a3), (4, .int a4)]) (by decide) (Nat.le_of_ble_eq_true rfl) rfl (fun p e R s m args below meth c Q ls F hl hZ => ?_)
  obtain ⟨hx0, hb, hml, hr, hts, hown, hlocks, rfl, hQ⟩ := F
  refine lv_aload_n hx0 hb d_ES_drawn_0 rfl (lv_at hl 0 rfl) ?_
  refine lv_iload_n hx0 hb d_ES_drawn_1 rfl (lv_at hl 1 rfl) ?_
  obtain ⟨q1, hc16, h⟩ := bnd_some h
  refine k_ES_ES_isColumn [.int a1] hx0 hb hml hts hown (c_ES_isColumn l G a1 M q1 hc16) hZ rfl rfl ⟨Nat.le_of_ble_eq_true rfl, Nat.le_of_ble_eq_true rfl⟩ hl.1 rfl (Nat.le_of_ble_eq_true rfl) d_ES_drawn_2 (fun H locs hZ => ?_)
  refine lv_if_eq (tgt := 27) hx0 hb d_ES_drawn_5 (by decide) (fun c2 => ?_) (fun c2 => ?_)
  · replace h := (if_pos c2).symm.trans h
    refine lv_ldc2 (v := (-1000000000000 : Int64)) hx0 hb hown (hts _ wk_ES_114) d_ES_drawn_27 ?_
    cases h
    exact z_lretC hx0 hb hr hZ hlocks hQ d_ES_drawn_30
  · replace h := (if_neg c2).symm.trans h
    refine lv_iload hx0 hb d_ES_drawn_8 (lv_at hl 4 rfl) ?_
    obtain ⟨q3, hc15, h⟩ := bnd_some h
    refine k_ES_ES_isPart [.int a4] hx0 hb hml hts hown (c_ES_isPart l G a4 M q3 hc15) hZ rfl rfl ⟨Nat.le_of_ble_eq_true rfl, Nat.le_of_ble_eq_true rfl⟩ hl.1 rfl (Nat.le_of_ble_eq_true rfl) d_ES_drawn_10 (fun H locs hZ => ?_)
    refine lv_if_eq (tgt := 27) hx0 hb d_ES_drawn_13 (by decide) (fun c4 => ?_) (fun c4 => ?_)
    · replace h := (if_pos c4).symm.trans h
      refine lv_ldc2 (v := (-1000000000000 : Int64)) hx0 hb hown (hts _ wk_ES_114) d_ES_drawn_27 ?_
      cases h
      exact z_lretC hx0 hb hr hZ hlocks hQ d_ES_drawn_30
    · replace h := (if_neg c4).symm.trans h
      refine lv_iload_n hx0 hb d_ES_drawn_16 rfl (lv_at hl 3 rfl) ?_
      refine lv_iconst (v := (1 : Int32)) hx0 hb d_ES_drawn_17 (by decide) ?_
      refine lv_icmp_lt (tgt := 27) hx0 hb d_ES_drawn_18 (by decide) (fun c5 => ?_) (fun c5 => ?_)
      · replace h := (if_pos c5).symm.trans h
        refine lv_ldc2 (v := (-1000000000000 : Int64)) hx0 hb hown (hts _ wk_ES_114) d_ES_drawn_27 ?_
        cases h
        exact z_lretC hx0 hb hr hZ hlocks hQ d_ES_drawn_30
      · replace h := (if_neg c5).symm.trans h
        refine lv_iload_n hx0 hb d_ES_drawn_21 rfl (lv_at hl 3 rfl) ?_
        refine lv_bipush (v := (20 : Int32)) hx0 hb d_ES_drawn_22 (by decide) ?_
        refine lv_icmp_le (tgt := 31) hx0 hb d_ES_drawn_24 (by decide) (fun c6 => ?_) (fun c6 => ?_)
        · replace h := (if_pos c6).symm.trans h
          refine lv_aload_n hx0 hb d_ES_drawn_31 rfl (lv_at hl 0 rfl) ?_
          refine fg_ES_means hx0 hb hts hown hZ d_ES_drawn_32 ?_
          refine lv_aload_n hx0 hb d_ES_drawn_35 rfl (lv_at hl 0 rfl) ?_
          refine fg_ES_groups hx0 hb hts hown hZ d_ES_drawn_36 ?_
          refine lv_iload_n hx0 hb d_ES_drawn_39 rfl (lv_at hl 1 rfl) ?_
          obtain ⟨q7, hc14, h⟩ := bnd_some h
          refine k_ES_Gr_ofColumn [.int a1] hx0 hb hml hts hown (c_Gr_ofColumn l G a1 M q7 hc14) hZ rfl rfl ⟨Nat.le_of_ble_eq_true rfl, Nat.le_of_ble_eq_true rfl⟩ hl.1 rfl (Nat.le_of_ble_eq_true rfl) d_ES_drawn_40 (fun H locs hZ => ?_)
          refine lv_iload_n hx0 hb d_ES_drawn_43 rfl (lv_at hl 2 rfl) ?_
          refine lv_iload_n hx0 hb d_ES_drawn_44 rfl (lv_at hl 3 rfl) ?_
          obtain ⟨q8, hc13, h⟩ := bnd_some h
          refine k_ES_Me_drawnSum [.int q7, .int a2, .int a3] hx0 hb hml hts hown (c_Me_drawnSum l G q7 a2 a3 M q8 hc13) hZ rfl rfl ⟨Nat.le_of_ble_eq_true rfl, Nat.le_of_ble_eq_true rfl⟩ hl.1 rfl (Nat.le_of_ble_eq_true rfl) d_ES_drawn_45 (fun H locs hZ => ?_)
          refine lv_lstore (lv' := [(5, .long q8.1), (0, .ref (G.1 0)), (1, .int a1), (2, .int a2), (3, .int a3), (4, .int a4)]) hx0 hb d_ES_drawn_48 hl (by decide) rfl (fun ls hl => ?_)
          refine lv_lload hx0 hb d_ES_drawn_50 (lv_at hl 0 rfl) ?_
          refine lv_iload_n hx0 hb d_ES_drawn_52 rfl (lv_at hl 4 rfl) ?_
          refine lv_i2l (v := Int32.toInt64 a3) hx0 hb d_ES_drawn_53 rfl ?_
          refine lv_aload_n hx0 hb d_ES_drawn_54 rfl (lv_at hl 1 rfl) ?_
          refine fg_ES_rows hx0 hb hts hown hZ d_ES_drawn_55 ?_
          obtain ⟨q9, hc12, h⟩ := bnd_some h
          refine k_ES_Rw_count [] hx0 hb hml hts hown (c_Rw_count l G  q8.2 q9 hc12) hZ rfl rfl ⟨Nat.le_of_ble_eq_true rfl, Nat.le_of_ble_eq_true rfl⟩ hl.1 rfl (Nat.le_of_ble_eq_true rfl) d_ES_drawn_58 (fun H locs hZ => ?_)
          refine lv_i2l (v := Int32.toInt64 q9) hx0 hb d_ES_drawn_61 rfl ?_
          refine lv_lmul hx0 hb d_ES_drawn_62 ?_
          refine lv_iload hx0 hb d_ES_drawn_63 (lv_at hl 5 rfl) ?_
          obtain ⟨q10, hc11, h⟩ := bnd_some h
          cases q10 with
          | none => cases h
          | some q10v =>
            refine k_ES_ES_told [.long q8.1, .long ((Int32.toInt64 a3) * (Int32.toInt64 q9)), .int a4] hx0 hb hml hts hown (c_ES_told l G q8.1 ((Int32.toInt64 a3) * (Int32.toInt64 q9)) a4 q8.2 q10v hc11) hZ rfl rfl ⟨Nat.le_of_ble_eq_true rfl, Nat.le_of_ble_eq_true rfl⟩ hl.1 rfl (Nat.le_of_ble_eq_true rfl) d_ES_drawn_65 (fun H locs hZ => ?_)
            cases h
            exact z_lretC hx0 hb hr hZ hlocks hQ d_ES_drawn_68
        · replace h := (if_neg c6).symm.trans h
          refine lv_ldc2 (v := (-1000000000000 : Int64)) hx0 hb hown (hts _ wk_ES_114) d_ES_drawn_27 ?_
          cases h
          exact z_lretC hx0 hb hr hZ hlocks hQ d_ES_drawn_30
set_option maxHeartbeats 4000000 in
set_option maxRecDepth 100000 in
theorem cx_ES_drawn (l : Launch) (hfl : l.flags = pinnedFlags ++ [noTraceFlag]) (G : zG) (a1 : Int32) (a2 : Int32) (a3 : Int32) (a4 : Int32) (M : Mem) (M2 : Mem) (h : p_ES_drawn a1 a2 a3 a4 M = some (none, M2)) : MetX l G y_ES_drawn (Cond.code y_ES_drawn b_ES_drawn 7 (some .long) :: zws) rmx_ES_drawn [.ref (G.1 0), .int a1, .int a2, .int a3, .int a4] M M2 := by
  unfold p_ES_drawn at h
  refine z_ofX hfl (lv := [(0, .ref (G.1 0)), (1, .int a1), (2, .int a2), (3, .int a3), (4, .int a4)]) (by decide) (Nat.le_of_ble_eq_true rfl) rfl (fun p e R s m args below meth c Q N0 ls F hl hZ => ?_)
  obtain ⟨hx0, hb, hml, hr, hts, hown, hlocks, rfl, hQ, hemp, htr, hN, hNG, hX⟩ := F
  refine lv_aload_n hx0 hb d_ES_drawn_0 rfl (lv_at hl 0 rfl) ?_
  refine lv_iload_n hx0 hb d_ES_drawn_1 rfl (lv_at hl 1 rfl) ?_
  obtain ⟨q1, hc16, h⟩ := bnd_some h
  refine k_ES_ES_isColumn [.int a1] hx0 hb hml hts hown (c_ES_isColumn l G a1 M q1 hc16) hZ rfl rfl ⟨Nat.le_of_ble_eq_true rfl, Nat.le_of_ble_eq_true rfl⟩ hl.1 rfl (Nat.le_of_ble_eq_true rfl) d_ES_drawn_2 (fun H locs hZ => ?_)
  refine lv_if_eq (tgt := 27) hx0 hb d_ES_drawn_5 (by decide) (fun c2 => ?_) (fun c2 => ?_)
  · replace h := (if_pos c2).symm.trans h
    refine lv_ldc2 (v := (-1000000000000 : Int64)) hx0 hb hown (hts _ wk_ES_114) d_ES_drawn_27 ?_
    cases h
  · replace h := (if_neg c2).symm.trans h
    refine lv_iload hx0 hb d_ES_drawn_8 (lv_at hl 4 rfl) ?_
    obtain ⟨q3, hc15, h⟩ := bnd_some h
    refine k_ES_ES_isPart [.int a4] hx0 hb hml hts hown (c_ES_isPart l G a4 M q3 hc15) hZ rfl rfl ⟨Nat.le_of_ble_eq_true rfl, Nat.le_of_ble_eq_true rfl⟩ hl.1 rfl (Nat.le_of_ble_eq_true rfl) d_ES_drawn_10 (fun H locs hZ => ?_)
    refine lv_if_eq (tgt := 27) hx0 hb d_ES_drawn_13 (by decide) (fun c4 => ?_) (fun c4 => ?_)
    · replace h := (if_pos c4).symm.trans h
      refine lv_ldc2 (v := (-1000000000000 : Int64)) hx0 hb hown (hts _ wk_ES_114) d_ES_drawn_27 ?_
      cases h
    · replace h := (if_neg c4).symm.trans h
      refine lv_iload_n hx0 hb d_ES_drawn_16 rfl (lv_at hl 3 rfl) ?_
      refine lv_iconst (v := (1 : Int32)) hx0 hb d_ES_drawn_17 (by decide) ?_
      refine lv_icmp_lt (tgt := 27) hx0 hb d_ES_drawn_18 (by decide) (fun c5 => ?_) (fun c5 => ?_)
      · replace h := (if_pos c5).symm.trans h
        refine lv_ldc2 (v := (-1000000000000 : Int64)) hx0 hb hown (hts _ wk_ES_114) d_ES_drawn_27 ?_
        cases h
      · replace h := (if_neg c5).symm.trans h
        refine lv_iload_n hx0 hb d_ES_drawn_21 rfl (lv_at hl 3 rfl) ?_
        refine lv_bipush (v := (20 : Int32)) hx0 hb d_ES_drawn_22 (by decide) ?_
        refine lv_icmp_le (tgt := 31) hx0 hb d_ES_drawn_24 (by decide) (fun c6 => ?_) (fun c6 => ?_)
        · replace h := (if_pos c6).symm.trans h
          refine lv_aload_n hx0 hb d_ES_drawn_31 rfl (lv_at hl 0 rfl) ?_
          refine fg_ES_means hx0 hb hts hown hZ d_ES_drawn_32 ?_
          refine lv_aload_n hx0 hb d_ES_drawn_35 rfl (lv_at hl 0 rfl) ?_
          refine fg_ES_groups hx0 hb hts hown hZ d_ES_drawn_36 ?_
          refine lv_iload_n hx0 hb d_ES_drawn_39 rfl (lv_at hl 1 rfl) ?_
          obtain ⟨q7, hc14, h⟩ := bnd_some h
          refine k_ES_Gr_ofColumn [.int a1] hx0 hb hml hts hown (c_Gr_ofColumn l G a1 M q7 hc14) hZ rfl rfl ⟨Nat.le_of_ble_eq_true rfl, Nat.le_of_ble_eq_true rfl⟩ hl.1 rfl (Nat.le_of_ble_eq_true rfl) d_ES_drawn_40 (fun H locs hZ => ?_)
          refine lv_iload_n hx0 hb d_ES_drawn_43 rfl (lv_at hl 2 rfl) ?_
          refine lv_iload_n hx0 hb d_ES_drawn_44 rfl (lv_at hl 3 rfl) ?_
          obtain ⟨q8, hc13, h⟩ := bnd_some h
          refine k_ES_Me_drawnSum [.int q7, .int a2, .int a3] hx0 hb hml hts hown (c_Me_drawnSum l G q7 a2 a3 M q8 hc13) hZ rfl rfl ⟨Nat.le_of_ble_eq_true rfl, Nat.le_of_ble_eq_true rfl⟩ hl.1 rfl (Nat.le_of_ble_eq_true rfl) d_ES_drawn_45 (fun H locs hZ => ?_)
          refine lv_lstore (lv' := [(5, .long q8.1), (0, .ref (G.1 0)), (1, .int a1), (2, .int a2), (3, .int a3), (4, .int a4)]) hx0 hb d_ES_drawn_48 hl (by decide) rfl (fun ls hl => ?_)
          refine lv_lload hx0 hb d_ES_drawn_50 (lv_at hl 0 rfl) ?_
          refine lv_iload_n hx0 hb d_ES_drawn_52 rfl (lv_at hl 4 rfl) ?_
          refine lv_i2l (v := Int32.toInt64 a3) hx0 hb d_ES_drawn_53 rfl ?_
          refine lv_aload_n hx0 hb d_ES_drawn_54 rfl (lv_at hl 1 rfl) ?_
          refine fg_ES_rows hx0 hb hts hown hZ d_ES_drawn_55 ?_
          obtain ⟨q9, hc12, h⟩ := bnd_some h
          refine k_ES_Rw_count [] hx0 hb hml hts hown (c_Rw_count l G  q8.2 q9 hc12) hZ rfl rfl ⟨Nat.le_of_ble_eq_true rfl, Nat.le_of_ble_eq_true rfl⟩ hl.1 rfl (Nat.le_of_ble_eq_true rfl) d_ES_drawn_58 (fun H locs hZ => ?_)
          refine lv_i2l (v := Int32.toInt64 q9) hx0 hb d_ES_drawn_61 rfl ?_
          refine lv_lmul hx0 hb d_ES_drawn_62 ?_
          refine lv_iload hx0 hb d_ES_drawn_63 (lv_at hl 5 rfl) ?_
          obtain ⟨q10, hc11, h⟩ := bnd_some h
          cases q10 with
          | some q10v => cases h
          | none =>
            cases h
            exact zx_static (n := 3) [.long q8.1, .long ((Int32.toInt64 a3) * (Int32.toInt64 q9)), .int a4] hx0 hb hml hts hown (cx_ES_told l hfl G q8.1 ((Int32.toInt64 a3) * (Int32.toInt64 q9)) a4 q8.2 hc11) wc_ES_told wini_ES wst_ES_told wm_ES_130 (by decide +kernel) hZ hN hNG hX hlocks hQ hemp rfl rfl ⟨Nat.le_of_ble_eq_true rfl, Nat.le_of_ble_eq_true rfl⟩ ⟨Nat.le_of_ble_eq_true rfl, Nat.le_of_ble_eq_true rfl⟩ hl.1 rfl (Nat.le_of_ble_eq_true rfl) d_ES_drawn_65
        · replace h := (if_neg c6).symm.trans h
          refine lv_ldc2 (v := (-1000000000000 : Int64)) hx0 hb hown (hts _ wk_ES_114) d_ES_drawn_27 ?_
          cases h
abbrev rm_ES_share : Room := ({ frames := 5, cells := 0, slots := 0, locals := 124 } : Room)
abbrev rmx_ES_share : Room := { frames := 7, cells := 1, slots := 6, locals := 124 }
set_option maxHeartbeats 4000000 in
set_option maxRecDepth 100000 in
theorem c_ES_share (l : Launch) (G : zG) (a1 : Int32) (a2 : Int32) (a3 : Int32) (M : Mem) (r : Int64) (M2 : Mem) (h : p_ES_share a1 a2 a3 M = some (some r, M2)) : MetZC l G y_ES_share (Cond.code y_ES_share b_ES_share 6 (some .long) :: zws) rm_ES_share [.ref (G.1 0), .int a1, .int a2, .int a3] M (some (.long r)) M2 := by
  unfold p_ES_share at h
  refine z_ofWC (lv := [(0, .ref (G.1 0)), (1, .int a1), (2, .int a2), (3, .int a3)]) (by decide) (Nat.le_of_ble_eq_true rfl) rfl (fun p e R s m args below meth c Q ls F hl hZ => ?_)
  obtain ⟨hx0, hb, hml, hr, hts, hown, hlocks, rfl, hQ⟩ := F
  refine lv_aload_n hx0 hb d_ES_share_0 rfl (lv_at hl 0 rfl) ?_
  refine lv_iload_n hx0 hb d_ES_share_1 rfl (lv_at hl 1 rfl) ?_
  obtain ⟨q1, hc19, h⟩ := bnd_some h
  refine k_ES_ES_isColumn [.int a1] hx0 hb hml hts hown (c_ES_isColumn l G a1 M q1 hc19) hZ rfl rfl ⟨Nat.le_of_ble_eq_true rfl, Nat.le_of_ble_eq_true rfl⟩ hl.1 rfl (Nat.le_of_ble_eq_true rfl) d_ES_share_2 (fun H locs hZ => ?_)
  refine lv_if_eq (tgt := 22) hx0 hb d_ES_share_5 (by decide) (fun c2 => ?_) (fun c2 => ?_)
  · replace h := (if_pos c2).symm.trans h
    refine lv_ldc2 (v := (-1000000000000 : Int64)) hx0 hb hown (hts _ wk_ES_114) d_ES_share_22 ?_
    cases h
    exact z_lretC hx0 hb hr hZ hlocks hQ d_ES_share_25
  · replace h := (if_neg c2).symm.trans h
    refine lv_iload_n hx0 hb d_ES_share_8 rfl (lv_at hl 2 rfl) ?_
    obtain ⟨q3, hc18, h⟩ := bnd_some h
    refine k_ES_ES_isManner [.int a2] hx0 hb hml hts hown (c_ES_isManner l G a2 M q3 hc18) hZ rfl rfl ⟨Nat.le_of_ble_eq_true rfl, Nat.le_of_ble_eq_true rfl⟩ hl.1 rfl (Nat.le_of_ble_eq_true rfl) d_ES_share_9 (fun H locs hZ => ?_)
    refine lv_if_eq (tgt := 22) hx0 hb d_ES_share_12 (by decide) (fun c4 => ?_) (fun c4 => ?_)
    · replace h := (if_pos c4).symm.trans h
      refine lv_ldc2 (v := (-1000000000000 : Int64)) hx0 hb hown (hts _ wk_ES_114) d_ES_share_22 ?_
      cases h
      exact z_lretC hx0 hb hr hZ hlocks hQ d_ES_share_25
    · replace h := (if_neg c4).symm.trans h
      refine lv_iload_n hx0 hb d_ES_share_15 rfl (lv_at hl 3 rfl) ?_
      obtain ⟨q5, hc17, h⟩ := bnd_some h
      refine k_ES_ES_isPart [.int a3] hx0 hb hml hts hown (c_ES_isPart l G a3 M q5 hc17) hZ rfl rfl ⟨Nat.le_of_ble_eq_true rfl, Nat.le_of_ble_eq_true rfl⟩ hl.1 rfl (Nat.le_of_ble_eq_true rfl) d_ES_share_16 (fun H locs hZ => ?_)
      refine lv_if_ne (tgt := 26) hx0 hb d_ES_share_19 (by decide) (fun c6 => ?_) (fun c6 => ?_)
      · replace h := (if_neg c6).symm.trans h
        refine lv_aload_n hx0 hb d_ES_share_26 rfl (lv_at hl 0 rfl) ?_
        refine fg_ES_means hx0 hb hts hown hZ d_ES_share_27 ?_
        refine lv_aload_n hx0 hb d_ES_share_30 rfl (lv_at hl 0 rfl) ?_
        refine fg_ES_groups hx0 hb hts hown hZ d_ES_share_31 ?_
        refine lv_iload_n hx0 hb d_ES_share_34 rfl (lv_at hl 1 rfl) ?_
        obtain ⟨q7, hc16, h⟩ := bnd_some h
        refine k_ES_Gr_ofColumn [.int a1] hx0 hb hml hts hown (c_Gr_ofColumn l G a1 M q7 hc16) hZ rfl rfl ⟨Nat.le_of_ble_eq_true rfl, Nat.le_of_ble_eq_true rfl⟩ hl.1 rfl (Nat.le_of_ble_eq_true rfl) d_ES_share_35 (fun H locs hZ => ?_)
        refine lv_iload_n hx0 hb d_ES_share_38 rfl (lv_at hl 2 rfl) ?_
        obtain ⟨q8, hc15, h⟩ := bnd_some h
        refine k_ES_Me_shareSum [.int q7, .int a2] hx0 hb hml hts hown (c_Me_shareSum l G q7 a2 M q8 hc15) hZ rfl rfl ⟨Nat.le_of_ble_eq_true rfl, Nat.le_of_ble_eq_true rfl⟩ hl.1 rfl (Nat.le_of_ble_eq_true rfl) d_ES_share_39 (fun H locs hZ => ?_)
        refine lv_lstore (lv' := [(4, .long q8.1), (0, .ref (G.1 0)), (1, .int a1), (2, .int a2), (3, .int a3)]) hx0 hb d_ES_share_42 hl (by decide) rfl (fun ls hl => ?_)
        refine lv_lload hx0 hb d_ES_share_44 (lv_at hl 0 rfl) ?_
        refine lv_aload_n hx0 hb d_ES_share_46 rfl (lv_at hl 1 rfl) ?_
        refine fg_ES_means hx0 hb hts hown hZ d_ES_share_47 ?_
        refine lv_iload_n hx0 hb d_ES_share_50 rfl (lv_at hl 3 rfl) ?_
        obtain ⟨q9, hc14, h⟩ := bnd_some h
        refine k_ES_Me_shareWays [.int a2] hx0 hb hml hts hown (c_Me_shareWays l G a2 q8.2 q9 hc14) hZ rfl rfl ⟨Nat.le_of_ble_eq_true rfl, Nat.le_of_ble_eq_true rfl⟩ hl.1 rfl (Nat.le_of_ble_eq_true rfl) d_ES_share_51 (fun H locs hZ => ?_)
        refine lv_aload_n hx0 hb d_ES_share_54 rfl (lv_at hl 1 rfl) ?_
        refine fg_ES_rows hx0 hb hts hown hZ d_ES_share_55 ?_
        obtain ⟨q10, hc13, h⟩ := bnd_some h
        refine k_ES_Rw_count [] hx0 hb hml hts hown (c_Rw_count l G  q8.2 q10 hc13) hZ rfl rfl ⟨Nat.le_of_ble_eq_true rfl, Nat.le_of_ble_eq_true rfl⟩ hl.1 rfl (Nat.le_of_ble_eq_true rfl) d_ES_share_58 (fun H locs hZ => ?_)
        refine lv_i2l (v := Int32.toInt64 q10) hx0 hb d_ES_share_61 rfl ?_
        refine lv_lmul hx0 hb d_ES_share_62 ?_
        refine lv_iload_n hx0 hb d_ES_share_63 rfl (lv_at hl 4 rfl) ?_
        obtain ⟨q11, hc12, h⟩ := bnd_some h
        cases q11 with
        | none => cases h
        | some q11v =>
          refine k_ES_ES_told [.long q8.1, .long (q9 * (Int32.toInt64 q10)), .int a3] hx0 hb hml hts hown (c_ES_told l G q8.1 (q9 * (Int32.toInt64 q10)) a3 q8.2 q11v hc12) hZ rfl rfl ⟨Nat.le_of_ble_eq_true rfl, Nat.le_of_ble_eq_true rfl⟩ hl.1 rfl (Nat.le_of_ble_eq_true rfl) d_ES_share_64 (fun H locs hZ => ?_)
          cases h
          exact z_lretC hx0 hb hr hZ hlocks hQ d_ES_share_67
      · replace h := (if_pos c6).symm.trans h
        refine lv_ldc2 (v := (-1000000000000 : Int64)) hx0 hb hown (hts _ wk_ES_114) d_ES_share_22 ?_
        cases h
        exact z_lretC hx0 hb hr hZ hlocks hQ d_ES_share_25
set_option maxHeartbeats 4000000 in
set_option maxRecDepth 100000 in
theorem cx_ES_share (l : Launch) (hfl : l.flags = pinnedFlags ++ [noTraceFlag]) (G : zG) (a1 : Int32) (a2 : Int32) (a3 : Int32) (M : Mem) (M2 : Mem) (h : p_ES_share a1 a2 a3 M = some (none, M2)) : MetX l G y_ES_share (Cond.code y_ES_share b_ES_share 6 (some .long) :: zws) rmx_ES_share [.ref (G.1 0), .int a1, .int a2, .int a3] M M2 := by
  unfold p_ES_share at h
  refine z_ofX hfl (lv := [(0, .ref (G.1 0)), (1, .int a1), (2, .int a2), (3, .int a3)]) (by decide) (Nat.le_of_ble_eq_true rfl) rfl (fun p e R s m args below meth c Q N0 ls F hl hZ => ?_)
  obtain ⟨hx0, hb, hml, hr, hts, hown, hlocks, rfl, hQ, hemp, htr, hN, hNG, hX⟩ := F
  refine lv_aload_n hx0 hb d_ES_share_0 rfl (lv_at hl 0 rfl) ?_
  refine lv_iload_n hx0 hb d_ES_share_1 rfl (lv_at hl 1 rfl) ?_
  obtain ⟨q1, hc19, h⟩ := bnd_some h
  refine k_ES_ES_isColumn [.int a1] hx0 hb hml hts hown (c_ES_isColumn l G a1 M q1 hc19) hZ rfl rfl ⟨Nat.le_of_ble_eq_true rfl, Nat.le_of_ble_eq_true rfl⟩ hl.1 rfl (Nat.le_of_ble_eq_true rfl) d_ES_share_2 (fun H locs hZ => ?_)
  refine lv_if_eq (tgt := 22) hx0 hb d_ES_share_5 (by decide) (fun c2 => ?_) (fun c2 => ?_)
  · replace h := (if_pos c2).symm.trans h
    refine lv_ldc2 (v := (-1000000000000 : Int64)) hx0 hb hown (hts _ wk_ES_114) d_ES_share_22 ?_
    cases h
  · replace h := (if_neg c2).symm.trans h
    refine lv_iload_n hx0 hb d_ES_share_8 rfl (lv_at hl 2 rfl) ?_
    obtain ⟨q3, hc18, h⟩ := bnd_some h
    refine k_ES_ES_isManner [.int a2] hx0 hb hml hts hown (c_ES_isManner l G a2 M q3 hc18) hZ rfl rfl ⟨Nat.le_of_ble_eq_true rfl, Nat.le_of_ble_eq_true rfl⟩ hl.1 rfl (Nat.le_of_ble_eq_true rfl) d_ES_share_9 (fun H locs hZ => ?_)
    refine lv_if_eq (tgt := 22) hx0 hb d_ES_share_12 (by decide) (fun c4 => ?_) (fun c4 => ?_)
    · replace h := (if_pos c4).symm.trans h
      refine lv_ldc2 (v := (-1000000000000 : Int64)) hx0 hb hown (hts _ wk_ES_114) d_ES_share_22 ?_
      cases h
    · replace h := (if_neg c4).symm.trans h
      refine lv_iload_n hx0 hb d_ES_share_15 rfl (lv_at hl 3 rfl) ?_
      obtain ⟨q5, hc17, h⟩ := bnd_some h
      refine k_ES_ES_isPart [.int a3] hx0 hb hml hts hown (c_ES_isPart l G a3 M q5 hc17) hZ rfl rfl ⟨Nat.le_of_ble_eq_true rfl, Nat.le_of_ble_eq_true rfl⟩ hl.1 rfl (Nat.le_of_ble_eq_true rfl) d_ES_share_16 (fun H locs hZ => ?_)
      refine lv_if_ne (tgt := 26) hx0 hb d_ES_share_19 (by decide) (fun c6 => ?_) (fun c6 => ?_)
      · replace h := (if_neg c6).symm.trans h
        refine lv_aload_n hx0 hb d_ES_share_26 rfl (lv_at hl 0 rfl) ?_
        refine fg_ES_means hx0 hb hts hown hZ d_ES_share_27 ?_
        refine lv_aload_n hx0 hb d_ES_share_30 rfl (lv_at hl 0 rfl) ?_
        refine fg_ES_groups hx0 hb hts hown hZ d_ES_share_31 ?_
        refine lv_iload_n hx0 hb d_ES_share_34 rfl (lv_at hl 1 rfl) ?_
        obtain ⟨q7, hc16, h⟩ := bnd_some h
        refine k_ES_Gr_ofColumn [.int a1] hx0 hb hml hts hown (c_Gr_ofColumn l G a1 M q7 hc16) hZ rfl rfl ⟨Nat.le_of_ble_eq_true rfl, Nat.le_of_ble_eq_true rfl⟩ hl.1 rfl (Nat.le_of_ble_eq_true rfl) d_ES_share_35 (fun H locs hZ => ?_)
        refine lv_iload_n hx0 hb d_ES_share_38 rfl (lv_at hl 2 rfl) ?_
        obtain ⟨q8, hc15, h⟩ := bnd_some h
        refine k_ES_Me_shareSum [.int q7, .int a2] hx0 hb hml hts hown (c_Me_shareSum l G q7 a2 M q8 hc15) hZ rfl rfl ⟨Nat.le_of_ble_eq_true rfl, Nat.le_of_ble_eq_true rfl⟩ hl.1 rfl (Nat.le_of_ble_eq_true rfl) d_ES_share_39 (fun H locs hZ => ?_)
        refine lv_lstore (lv' := [(4, .long q8.1), (0, .ref (G.1 0)), (1, .int a1), (2, .int a2), (3, .int a3)]) hx0 hb d_ES_share_42 hl (by decide) rfl (fun ls hl => ?_)
        refine lv_lload hx0 hb d_ES_share_44 (lv_at hl 0 rfl) ?_
        refine lv_aload_n hx0 hb d_ES_share_46 rfl (lv_at hl 1 rfl) ?_
        refine fg_ES_means hx0 hb hts hown hZ d_ES_share_47 ?_
        refine lv_iload_n hx0 hb d_ES_share_50 rfl (lv_at hl 3 rfl) ?_
        obtain ⟨q9, hc14, h⟩ := bnd_some h
        refine k_ES_Me_shareWays [.int a2] hx0 hb hml hts hown (c_Me_shareWays l G a2 q8.2 q9 hc14) hZ rfl rfl ⟨Nat.le_of_ble_eq_true rfl, Nat.le_of_ble_eq_true rfl⟩ hl.1 rfl (Nat.le_of_ble_eq_true rfl) d_ES_share_51 (fun H locs hZ => ?_)
        refine lv_aload_n hx0 hb d_ES_share_54 rfl (lv_at hl 1 rfl) ?_
        refine fg_ES_rows hx0 hb hts hown hZ d_ES_share_55 ?_
        obtain ⟨q10, hc13, h⟩ := bnd_some h
        refine k_ES_Rw_count [] hx0 hb hml hts hown (c_Rw_count l G  q8.2 q10 hc13) hZ rfl rfl ⟨Nat.le_of_ble_eq_true rfl, Nat.le_of_ble_eq_true rfl⟩ hl.1 rfl (Nat.le_of_ble_eq_true rfl) d_ES_share_58 (fun H locs hZ => ?_)
        refine lv_i2l (v := Int32.toInt64 q10) hx0 hb d_ES_share_61 rfl ?_
        refine lv_lmul hx0 hb d_ES_share_62 ?_
        refine lv_iload_n hx0 hb d_ES_share_63 rfl (lv_at hl 4 rfl) ?_
        obtain ⟨q11, hc12, h⟩ := bnd_some h
        cases q11 with
        | some q11v => cases h
        | none =>
          cases h
          exact zx_static (n := 3) [.long q8.1, .long (q9 * (Int32.toInt64 q10)), .int a3] hx0 hb hml hts hown (cx_ES_told l hfl G q8.1 (q9 * (Int32.toInt64 q10)) a3 q8.2 hc12) wc_ES_told wini_ES wst_ES_told wm_ES_130 (by decide +kernel) hZ hN hNG hX hlocks hQ hemp rfl rfl ⟨Nat.le_of_ble_eq_true rfl, Nat.le_of_ble_eq_true rfl⟩ ⟨Nat.le_of_ble_eq_true rfl, Nat.le_of_ble_eq_true rfl⟩ hl.1 rfl (Nat.le_of_ble_eq_true rfl) d_ES_share_64
      · replace h := (if_pos c6).symm.trans h
        refine lv_ldc2 (v := (-1000000000000 : Int64)) hx0 hb hown (hts _ wk_ES_114) d_ES_share_22 ?_
        cases h
