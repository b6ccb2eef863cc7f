-- ExactShares2Model.clear()I
def p_Md_clear_L27 (x2_27 : Int32) (M_27 : Mem) : Option ((Int32 × Mem) ⊕ (Int32 × Mem)) :=
  if (6 : Int32) ≤ x2_27 then
    some (.inr (x2_27, M_27))
  else
    chk (inb x2_27 6) <|
    nm (wI M_27 7 x2_27 (0 : Int32)) fun m27_3 =>
    chk (inb x2_27 36) <|
    nm (wI m27_3 10 x2_27 (0 : Int32)) fun m27_5 =>
    chk (inb x2_27 6) <|
    nm (wI m27_5 8 x2_27 x2_27) fun m27_7 =>
    chk (inb x2_27 6) <|
    nm (wI m27_7 9 x2_27 (vp_nar .boolean (0 : Int32))) fun m27_9 =>
    some (.inl ((x2_27 + (1 : Int32)), m27_9))
def p_Md_clear  (M : Mem) : Option (Int32 × Mem) :=
  nm (wF M 0 0 (0 : Int32)) fun m1 =>
  nm (wF m1 0 2 (0 : Int32)) fun m2 =>
  nm (wF m2 0 8 (0 : Int32)) fun m3 =>
  nm (wF m3 0 13 (0 : Int32)) fun m4 =>
  bnd (itr zfu (fun s => p_Md_clear_L27 s.1 s.2) ((0 : Int32), m4)) fun q5 =>
  some ((m1.1 0 2), q5.2)
-- ExactShares2Model.thrown()I
def p_Md_thrown  (M : Mem) : Option (Int32) :=
  some (M.1 0 0)
-- ExactShares2Model.in(III)Z
def p_Md_in (a0 : Int32) (a1 : Int32) (a2 : Int32) (M : Mem) : Option (Int32) :=
  if a0 < a1 then
    some (0 : Int32)
  else
    if a2 < a0 then
      some (0 : Int32)
    else
      some (1 : Int32)
-- ExactShares2Model.leaf(I)I
def p_Md_leaf (a1 : Int32) (M : Mem) : Option (Int32 × Mem) :=
  nm (wF M 0 0 (0 : Int32)) fun m1 =>
  bnd (p_Md_in a1 (-1000 : Int32) (1000 : Int32) m1) fun q2 =>
  if q2 = 0 then
    some ((-2 : Int32), m1)
  else
    if (m1.1 0 2) = (30 : Int32) then
      some ((-4 : Int32), m1)
    else
      chk (inb (m1.1 0 2) 30) <|
      nm (wI m1 1 (m1.1 0 2) (vp_nar .boolean (1 : Int32))) fun m6 =>
      chk (inb (m6.1 0 2) 30) <|
      nm (wI m6 2 (m6.1 0 2) a1) fun m8 =>
      nm (wF m8 0 2 ((m8.1 0 2) + (1 : Int32))) fun m9 =>
      some (((m9.1 0 2) - (1 : Int32)), m9)
-- ExactShares2Model.isColumn(I)Z
def p_Md_isColumn (a1 : Int32) (M : Mem) : Option (Int32) :=
  bnd (p_Md_in a1 (0 : Int32) ((M.1 0 1) - (1 : Int32)) M) fun q1 =>
  chk (zbl q1) <|
  some q1
-- ExactShares2Model.split(IIII)I
def p_Md_split (a1 : Int32) (a2 : Int32) (a3 : Int32) (a4 : Int32) (M : Mem) : Option (Int32 × Mem) :=
  nm (wF M 0 0 (0 : Int32)) fun m1 =>
  bnd (p_Md_isColumn a1 m1) fun q2 =>
  if q2 = 0 then
    some ((-1 : Int32), m1)
  else
    bnd (p_Md_in a3 (0 : Int32) ((m1.1 0 2) - (1 : Int32)) m1) fun q4 =>
    if q4 = 0 then
      some ((-1 : Int32), m1)
    else
      bnd (p_Md_in a4 (0 : Int32) ((m1.1 0 2) - (1 : Int32)) m1) fun q6 =>
      if q6 = 0 then
        some ((-1 : Int32), m1)
      else
        bnd (p_Md_in a2 (-100 : Int32) (100 : Int32) m1) fun q8 =>
        if q8 = 0 then
          some ((-2 : Int32), m1)
        else
          if (m1.1 0 2) = (30 : Int32) then
            some ((-4 : Int32), m1)
          else
            chk (inb (m1.1 0 2) 30) <|
            nm (wI m1 1 (m1.1 0 2) (vp_nar .boolean (0 : Int32))) fun m12 =>
            chk (inb (m12.1 0 2) 30) <|
            nm (wI m12 2 (m12.1 0 2) a2) fun m14 =>
            chk (inb (m14.1 0 2) 30) <|
            nm (wI m14 3 (m14.1 0 2) a1) fun m16 =>
            chk (inb (m16.1 0 2) 30) <|
            nm (wI m16 4 (m16.1 0 2) a3) fun m18 =>
            chk (inb (m18.1 0 2) 30) <|
            nm (wI m18 5 (m18.1 0 2) a4) fun m20 =>
            nm (wF m20 0 2 ((m20.1 0 2) + (1 : Int32))) fun m21 =>
            some (((m21.1 0 2) - (1 : Int32)), m21)
-- ExactShares2Model.root(I)I
def p_Md_root (a1 : Int32) (M : Mem) : Option (Int32 × Mem) :=
  nm (wF M 0 0 (0 : Int32)) fun m1 =>
  bnd (p_Md_in a1 (0 : Int32) ((m1.1 0 2) - (1 : Int32)) m1) fun q2 =>
  if q2 = 0 then
    some ((-1 : Int32), m1)
  else
    if (m1.1 0 8) = (4 : Int32) then
      some ((-4 : Int32), m1)
    else
      chk (inb (m1.1 0 8) 4) <|
      nm (wI m1 6 (m1.1 0 8) a1) fun m6 =>
      nm (wF m6 0 8 ((m6.1 0 8) + (1 : Int32))) fun m7 =>
      some ((m7.1 0 8), m7)
-- ExactShares2Model.weight(II)I
def p_Md_weight (a1 : Int32) (a2 : Int32) (M : Mem) : Option (Int32 × Mem) :=
  nm (wF M 0 0 (0 : Int32)) fun m1 =>
  bnd (p_Md_isColumn a1 m1) fun q2 =>
  if q2 = 0 then
    some ((-1 : Int32), m1)
  else
    bnd (p_Md_in a2 (-20 : Int32) (20 : Int32) m1) fun q4 =>
    if q4 = 0 then
      some ((-2 : Int32), m1)
    else
      chk (inb a1 6) <|
      nm (wI m1 7 a1 a2) fun m7 =>
      some ((1 : Int32), m7)
-- ExactShares2Model.background()I
def p_Md_background_L28 (x1_28 : Int32) (M_28 : Mem) : Option ((Int32 × Mem) ⊕ (Int32 × Mem)) :=
  if (6 : Int32) ≤ x1_28 then
    some (.inr (x1_28, M_28))
  else
    chk (inb (((6 : Int32) * (M_28.1 0 13)) + x1_28) 36) <|
    nm (wI M_28 10 (((6 : Int32) * (M_28.1 0 13)) + x1_28) (0 : Int32)) fun m28_3 =>
    some (.inl ((x1_28 + (1 : Int32)), m28_3))
def p_Md_background  (M : Mem) : Option (Int32 × Mem) :=
  nm (wF M 0 0 (0 : Int32)) fun m1 =>
  if (m1.1 0 13) = (5 : Int32) then
    some ((-4 : Int32), m1)
  else
    nm (wF m1 0 13 ((m1.1 0 13) + (1 : Int32))) fun m3 =>
    bnd (itr zfu (fun s => p_Md_background_L28 s.1 s.2) ((0 : Int32), m3)) fun q4 =>
    some (((q4.2.1 0 13) - (1 : Int32)), q4.2)
-- ExactShares2Model.item(III)I
def p_Md_item (a1 : Int32) (a2 : Int32) (a3 : Int32) (M : Mem) : Option (Int32 × Mem) :=
  nm (wF M 0 0 (0 : Int32)) fun m1 =>
  bnd (p_Md_in a1 (-1 : Int32) ((m1.1 0 13) - (1 : Int32)) m1) fun q2 =>
  if q2 = 0 then
    some ((-1 : Int32), m1)
  else
    bnd (p_Md_isColumn a2 m1) fun q4 =>
    if q4 = 0 then
      some ((-1 : Int32), m1)
    else
      bnd (p_Md_in a3 (-100 : Int32) (100 : Int32) m1) fun q6 =>
      if q6 = 0 then
        some ((-2 : Int32), m1)
      else
        chk (inb (((6 : Int32) * (a1 + (1 : Int32))) + a2) 36) <|
        nm (wI m1 10 (((6 : Int32) * (a1 + (1 : Int32))) + a2) a3) fun m9 =>
        some ((1 : Int32), m9)
-- ExactShares2Model.group(II)I
def p_Md_group (a1 : Int32) (a2 : Int32) (M : Mem) : Option (Int32 × Mem) :=
  nm (wF M 0 0 (0 : Int32)) fun m1 =>
  bnd (p_Md_isColumn a1 m1) fun q2 =>
  if q2 = 0 then
    some ((-1 : Int32), m1)
  else
    bnd (p_Md_in a2 (0 : Int32) ((m1.1 0 1) - (1 : Int32)) m1) fun q4 =>
    if q4 = 0 then
      some ((-2 : Int32), m1)
    else
      chk (inb a1 6) <|
      chk (inb a1 6) <|
      nm (wI m1 8 a1 a2) fun m8 =>
      some ((m1.1 8 (Int32.toNatClampNeg a1)), m8)
-- ExactShares2Model.take(I)V
def p_Md_take_L2 (a1 : Int32) (x2_2 : Int32) (M_2 : Mem) : Option ((Int32 × Mem) ⊕ (Int32 × Mem)) :=
  if (M_2.1 0 1) ≤ x2_2 then
    some (.inr (x2_2, M_2))
  else
    chk (inb (((6 : Int32) * a1) + x2_2) 36) <|
    chk (inb x2_2 6) <|
    nm (wI M_2 11 x2_2 (M_2.1 10 (Int32.toNatClampNeg (((6 : Int32) * a1) + x2_2)))) fun m2_4 =>
    some (.inl ((x2_2 + (1 : Int32)), m2_4))
def p_Md_take (a1 : Int32) (M : Mem) : Option (Mem) :=
  bnd (itr zfu (fun s => p_Md_take_L2 a1 s.1 s.2) ((0 : Int32), M)) fun q1 =>
  some q1.2
-- ExactShares2Model.answerNow()J
def p_Md_answerNow_L20 (M : Mem) (x4_20 : Int32) : Option ((Int32) ⊕ (Int32)) :=
  chk (inb x4_20 30) <|
  if (M.1 1 (Int32.toNatClampNeg x4_20)) = 0 then
    chk (inb x4_20 30) <|
    chk (inb (M.1 3 (Int32.toNatClampNeg x4_20)) 6) <|
    chk (inb x4_20 30) <|
    if (M.1 2 (Int32.toNatClampNeg x4_20)) < (M.1 11 (Int32.toNatClampNeg (M.1 3 (Int32.toNatClampNeg x4_20)))) then
      chk (inb x4_20 30) <|
      some (.inl ((M.1 5 (Int32.toNatClampNeg x4_20))))
    else
      chk (inb x4_20 30) <|
      some (.inl ((M.1 4 (Int32.toNatClampNeg x4_20))))
  else
    some (.inr (x4_20))
def p_Md_answerNow_L4 (M : Mem) (x1_4 : Int64) (x3_4 : Int32) : Option ((Int64 × Int32) ⊕ (Int64 × Int32)) :=
  if (M.1 0 8) ≤ x3_4 then
    some (.inr (x1_4, x3_4))
  else
    chk (inb x3_4 4) <|
    bnd (itr zfu (fun s => p_Md_answerNow_L20 M s) ((M.1 6 (Int32.toNatClampNeg x3_4)))) fun q4_3 =>
    chk (inb q4_3 30) <|
    some (.inl ((x1_4 + (Int32.toInt64 (M.1 2 (Int32.toNatClampNeg q4_3)))), (x3_4 + (1 : Int32))))
def p_Md_answerNow_L93 (M : Mem) (x1_93 : Int64) (x3_93 : Int32) : Option ((Int64 × Int32) ⊕ (Int64 × Int32)) :=
  if (M.1 0 1) ≤ x3_93 then
    some (.inr (x1_93, x3_93))
  else
    chk (inb x3_93 6) <|
    chk (inb x3_93 6) <|
    some (.inl ((x1_93 + (Int32.toInt64 ((M.1 7 (Int32.toNatClampNeg x3_93)) * (M.1 11 (Int32.toNatClampNeg x3_93))))), (x3_93 + (1 : Int32))))
def p_Md_answerNow  (M : Mem) : Option (Int64) :=
  bnd (itr zfu (fun s => p_Md_answerNow_L4 M s.1 s.2) ((0 : Int64), (0 : Int32))) fun q1 =>
  bnd (itr zfu (fun s => p_Md_answerNow_L93 M s.1 s.2) (q1.1, (0 : Int32))) fun q2 =>
  some q2.1
-- ExactShares2Model.answer(I)J
def p_Md_answer (a1 : Int32) (M : Mem) : Option (Int64 × Mem) :=
  nm (wF M 0 0 (0 : Int32)) fun m1 =>
  bnd (p_Md_in a1 (-1 : Int32) ((m1.1 0 13) - (1 : Int32)) m1) fun q2 =>
  if q2 = 0 then
    some ((-1000000000000 : Int64), m1)
  else
    bnd (p_Md_take (a1 + (1 : Int32)) m1) fun q4 =>
    bnd (p_Md_answerNow  q4) fun q5 =>
    some (q5, q4)
-- ExactShares2Model.throwsNow()Z
def p_Md_throwsNow  (M : Mem) : Option (Int32 × Mem) :=
  if (M.1 0 13) = 0 then
    nm (wF M 0 0 (1 : Int32)) fun m4 =>
    if (m4.1 0 13) = 0 then
      some ((1 : Int32), m4)
    else
      some ((0 : Int32), m4)
  else
    nm (wF M 0 0 (0 : Int32)) fun m2 =>
    if (m2.1 0 13) = 0 then
      some ((1 : Int32), m2)
    else
      some ((0 : Int32), m2)
-- ExactShares2Model.sumAll()V
def p_Md_sumAll_L31 (x2_21 : Int32) (x1_2 : Int32) (x3_31 : Int32) (M_31 : Mem) : Option ((Int32 × Mem) ⊕ (Int32 × Mem)) :=
  if (M_31.1 0 1) ≤ x3_31 then
    some (.inr (x3_31, M_31))
  else
    if ((x1_2 >>> (x3_31 &&& 31)) &&& (1 : Int32)) = (1 : Int32) then
      chk (inb (((6 : Int32) * (0 : Int32)) + x3_31) 36) <|
      chk (inb x3_31 6) <|
      nm (wI M_31 11 x3_31 (M_31.1 10 (Int32.toNatClampNeg (((6 : Int32) * (0 : Int32)) + x3_31)))) fun m31_8 =>
      some (.inl ((x3_31 + (1 : Int32)), m31_8))
    else
      chk (inb (((6 : Int32) * x2_21) + x3_31) 36) <|
      chk (inb x3_31 6) <|
      nm (wI M_31 11 x3_31 (M_31.1 10 (Int32.toNatClampNeg (((6 : Int32) * x2_21) + x3_31)))) fun m31_5 =>
      some (.inl ((x3_31 + (1 : Int32)), m31_5))
def p_Md_sumAll_L21 (x1_2 : Int32) (x2_21 : Int32) (M_21 : Mem) : Option ((Int32 × Mem) ⊕ (Int32 × Mem)) :=
  if (M_21.1 0 13) < x2_21 then
    some (.inr (x2_21, M_21))
  else
    bnd (itr zfu (fun s => p_Md_sumAll_L31 x2_21 x1_2 s.1 s.2) ((0 : Int32), M_21)) fun q21_2 =>
    chk (inb x1_2 64) <|
    bnd (p_Md_answerNow  q21_2.2) fun q21_4 =>
    chk (inb x1_2 64) <|
    nm (wL q21_2.2 12 x1_2 ((q21_2.2.2 12 (Int32.toNatClampNeg x1_2)) + q21_4)) fun m21_6 =>
    some (.inl ((x2_21 + (1 : Int32)), m21_6))
def p_Md_sumAll_L2 (x1_2 : Int32) (M_2 : Mem) : Option ((Int32 × Mem) ⊕ (Int32 × Mem)) :=
  if ((1 : Int32) <<< ((M_2.1 0 1) &&& 31)) ≤ x1_2 then
    some (.inr (x1_2, M_2))
  else
    chk (inb x1_2 64) <|
    nm (wL M_2 12 x1_2 (0 : Int64)) fun m2_3 =>
    bnd (itr zfu (fun s => p_Md_sumAll_L21 x1_2 s.1 s.2) ((1 : Int32), m2_3)) fun q2_4 =>
    some (.inl ((x1_2 + (1 : Int32)), q2_4.2))
def p_Md_sumAll  (M : Mem) : Option (Mem) :=
  bnd (itr zfu (fun s => p_Md_sumAll_L2 s.1 s.2) ((0 : Int32), M)) fun q1 =>
  some q1.2
-- ExactShares2Model.part(JJI)J
def p_Md_part_L17 (x5_17 : Int64) (x7_17 : Int64) : Option ((Int64 × Int64) ⊕ (Int64 × Int64)) :=
  if (lg_cmp x7_17 (0 : Int64)) = 0 then
    some (.inr (x5_17, x7_17))
  else
    chk (decide (¬ x7_17 = 0)) <|
    some (.inl (x7_17, (x5_17 - x5_17 / x7_17 * x7_17)))
def p_Md_part (a0 : Int64) (a2 : Int64) (a4 : Int32) (M : Mem) : Option (Int64) :=
  if 0 ≤ (lg_cmp a0 (0 : Int64)) then
    bnd (itr zfu (fun s => p_Md_part_L17 s.1 s.2) (a0, a2)) fun q2 =>
    if a4 = 0 then
      chk (decide (¬ q2.1 = 0)) <|
      some (a0 / q2.1)
    else
      chk (decide (¬ q2.1 = 0)) <|
      some (a2 / q2.1)
  else
    bnd (itr zfu (fun s => p_Md_part_L17 s.1 s.2) ((-a0), a2)) fun q6 =>
    if a4 = 0 then
      chk (decide (¬ q6.1 = 0)) <|
      some (a0 / q6.1)
    else
      chk (decide (¬ q6.1 = 0)) <|
      some (a2 / q6.1)
-- ExactShares2Model.value(II)J
def p_Md_value (a1 : Int32) (a2 : Int32) (M : Mem) : Option (Int64 × Mem) :=
  nm (wF M 0 0 (0 : Int32)) fun m1 =>
  bnd (p_Md_in a1 (0 : Int32) (((1 : Int32) <<< ((m1.1 0 1) &&& 31)) - (1 : Int32)) m1) fun q2 =>
  if q2 = 0 then
    some ((-1000000000000 : Int64), m1)
  else
    bnd (p_Md_in a2 (0 : Int32) (1 : Int32) m1) fun q4 =>
    if q4 = 0 then
      some ((-1000000000000 : Int64), m1)
    else
      bnd (p_Md_throwsNow  m1) fun q6 =>
      if q6.1 = 0 then
        bnd (p_Md_sumAll  q6.2) fun q8 =>
        chk (inb a1 64) <|
        bnd (p_Md_part (q8.2 12 (Int32.toNatClampNeg a1)) (Int32.toInt64 (q8.1 0 13)) a2 q8) fun q10 =>
        some (q10, q8)
      else
        some ((0 : Int64), q6.2)
-- ExactShares2Model.groupBits(I)I
def p_Md_groupBits_L4 (a1 : Int32) (M : Mem) (x2_4 : Int32) (x3_4 : Int32) : Option ((Int32 × Int32) ⊕ (Int32 × Int32)) :=
  if (M.1 0 1) ≤ x3_4 then
    some (.inr (x2_4, x3_4))
  else
    chk (inb x3_4 6) <|
    if (M.1 8 (Int32.toNatClampNeg x3_4)) = a1 then
      some (.inl ((x2_4 ||| ((1 : Int32) <<< (x3_4 &&& 31))), (x3_4 + (1 : Int32))))
    else
      some (.inl ((x2_4 ||| (0 : Int32)), (x3_4 + (1 : Int32))))
def p_Md_groupBits (a1 : Int32) (M : Mem) : Option (Int32) :=
  bnd (itr zfu (fun s => p_Md_groupBits_L4 a1 M s.1 s.2) ((0 : Int32), (0 : Int32))) fun q1 =>
  some q1.1
-- ExactShares2Model.listParts(II)V
def p_Md_listParts_L25 (a1 : Int32) (a2 : Int32) (x3_25 : Int32) (M_25 : Mem) : Option ((Int32 × Mem) ⊕ (Int32 × Mem)) :=
  if (M_25.1 0 1) ≤ x3_25 then
    some (.inr (x3_25, M_25))
  else
    bnd (p_Md_groupBits x3_25 M_25) fun q25_2 =>
    if q25_2 = 0 then
      some (.inl ((x3_25 + (1 : Int32)), M_25))
    else
      if (q25_2 &&& (a1 ||| a2)) = 0 then
        chk (inb (M_25.1 0 17) 6) <|
        nm (wI M_25 13 (M_25.1 0 17) q25_2) fun m25_6 =>
        nm (wF m25_6 0 17 ((m25_6.1 0 17) + (1 : Int32))) fun m25_7 =>
        some (.inl ((x3_25 + (1 : Int32)), m25_7))
      else
        some (.inl ((x3_25 + (1 : Int32)), M_25))
def p_Md_listParts (a1 : Int32) (a2 : Int32) (M : Mem) : Option (Mem) :=
  nm (wF M 0 17 (0 : Int32)) fun m1 =>
  if a1 = 0 then
    bnd (itr zfu (fun s => p_Md_listParts_L25 a1 a2 s.1 s.2) ((0 : Int32), m1)) fun q3 =>
    some q3.2
  else
    chk (inb (0 : Int32) 6) <|
    nm (wI m1 13 (0 : Int32) (a1 ||| a2)) fun m5 =>
    nm (wF m5 0 17 (1 : Int32)) fun m6 =>
    bnd (itr zfu (fun s => p_Md_listParts_L25 a1 a2 s.1 s.2) ((0 : Int32), m6)) fun q7 =>
    some q7.2
-- ExactShares2Model.orders()I
def p_Md_orders_L4 (M : Mem) (x1_4 : Int32) (x2_4 : Int32) : Option ((Int32 × Int32) ⊕ (Int32 × Int32)) :=
  if (M.1 0 17) < x2_4 then
    some (.inr (x1_4, x2_4))
  else
    some (.inl ((x1_4 * x2_4), (x2_4 + (1 : Int32))))
def p_Md_orders  (M : Mem) : Option (Int32) :=
  bnd (itr zfu (fun s => p_Md_orders_L4 M s.1 s.2) ((1 : Int32), (2 : Int32))) fun q1 =>
  some q1.1
-- ExactShares2Model.layOrder(I)V
def p_Md_layOrder_L40 (x3_7 : Int32) (x5_40 : Int32) (x6_40 : Int32) : Option ((Int32 × Int32) ⊕ (Int32 × Int32)) :=
  if ((x3_7 >>> (x6_40 &&& 31)) &&& (1 : Int32)) = (1 : Int32) then
    if ((x3_7 >>> (x6_40 &&& 31)) &&& (1 : Int32)) = (1 : Int32) then
      some (.inl ((x5_40 - (0 : Int32)), (x6_40 + (1 : Int32))))
    else
      some (.inl ((x5_40 - (1 : Int32)), (x6_40 + (1 : Int32))))
  else
    if x5_40 ≤ 0 then
      some (.inr (x5_40, x6_40))
    else
      if ((x3_7 >>> (x6_40 &&& 31)) &&& (1 : Int32)) = (1 : Int32) then
        some (.inl ((x5_40 - (0 : Int32)), (x6_40 + (1 : Int32))))
      else
        some (.inl ((x5_40 - (1 : Int32)), (x6_40 + (1 : Int32))))
def p_Md_layOrder_L7 (x2_7 : Int32) (x3_7 : Int32) (x4_7 : Int32) (M_7 : Mem) : Option ((Int32 × Int32 × Int32 × Mem) ⊕ (Int32 × Int32 × Int32 × Mem)) :=
  if (M_7.1 0 17) ≤ x4_7 then
    some (.inr (x2_7, x3_7, x4_7, M_7))
  else
    chk (decide (¬ ((M_7.1 0 17) - x4_7) = 0)) <|
    chk (decide (¬ ((M_7.1 0 17) - x4_7) = 0)) <|
    bnd (itr zfu (fun s => p_Md_layOrder_L40 x3_7 s.1 s.2) ((x2_7 - x2_7 / ((M_7.1 0 17) - x4_7) * ((M_7.1 0 17) - x4_7)), (0 : Int32))) fun q7_4 =>
    chk (inb x4_7 6) <|
    nm (wI M_7 14 x4_7 q7_4.2) fun m7_6 =>
    some (.inl ((x2_7 / ((M_7.1 0 17) - x4_7)), (x3_7 ||| ((1 : Int32) <<< (q7_4.2 &&& 31))), (x4_7 + (1 : Int32)), m7_6))
def p_Md_layOrder (a1 : Int32) (M : Mem) : Option (Mem) :=
  bnd (itr zfu (fun s => p_Md_layOrder_L7 s.1 s.2.1 s.2.2.1 s.2.2.2) (a1, (0 : Int32), (0 : Int32), M)) fun q1 =>
  some q1.2.2.2
-- ExactShares2Model.before(I)I
def p_Md_before_L4 (a1 : Int32) (M : Mem) (x2_4 : Int32) (x3_4 : Int32) : Option ((Int32 × Int32) ⊕ (Int32 × Int32)) :=
  chk (inb x3_4 6) <|
  chk (inb (M.1 14 (Int32.toNatClampNeg x3_4)) 6) <|
  if (M.1 13 (Int32.toNatClampNeg (M.1 14 (Int32.toNatClampNeg x3_4)))) = a1 then
    some (.inr (x2_4, x3_4))
  else
    chk (inb x3_4 6) <|
    chk (inb (M.1 14 (Int32.toNatClampNeg x3_4)) 6) <|
    some (.inl ((x2_4 ||| (M.1 13 (Int32.toNatClampNeg (M.1 14 (Int32.toNatClampNeg x3_4))))), (x3_4 + (1 : Int32))))
def p_Md_before (a1 : Int32) (M : Mem) : Option (Int32) :=
  bnd (itr zfu (fun s => p_Md_before_L4 a1 M s.1 s.2) ((0 : Int32), (0 : Int32))) fun q1 =>
  some q1.1
-- ExactShares2Model.shareSum(I)J
def p_Md_shareSum_L11 (a1 : Int32) (x2_11 : Int64) (x4_11 : Int32) (M_11 : Mem) : Option ((Int64 × Int32 × Mem) ⊕ (Int64 × Int32 × Mem)) :=
  bnd (p_Md_orders  M_11) fun q11_1 =>
  if q11_1 ≤ x4_11 then
    some (.inr (x2_11, x4_11, M_11))
  else
    bnd (p_Md_layOrder x4_11 M_11) fun q11_3 =>
    bnd (p_Md_before a1 q11_3) fun q11_4 =>
    chk (inb (q11_4 ||| a1) 64) <|
    chk (inb q11_4 64) <|
    some (.inl ((x2_11 + ((q11_3.2 12 (Int32.toNatClampNeg (q11_4 ||| a1))) - (q11_3.2 12 (Int32.toNatClampNeg q11_4)))), (x4_11 + (1 : Int32)), q11_3))
def p_Md_shareSum (a1 : Int32) (M : Mem) : Option (Int64 × Mem) :=
  bnd (p_Md_listParts (0 : Int32) (0 : Int32) M) fun q1 =>
  bnd (itr zfu (fun s => p_Md_shareSum_L11 a1 s.1 s.2.1 s.2.2) ((0 : Int64), (0 : Int32), q1)) fun q2 =>
  some (q2.1, q2.2.2)
-- ExactShares2Model.setSum(I)J
def p_Md_setSum_L28 (q1 : (Mem)) (x4_11 : Int32) (x5_28 : Int32) (x6_28 : Int32) : Option ((Int32 × Int32) ⊕ (Int32 × Int32)) :=
  if (q1.1 0 17) ≤ x6_28 then
    some (.inr (x5_28, x6_28))
  else
    if ((x4_11 >>> (x6_28 &&& 31)) &&& (1 : Int32)) = (1 : Int32) then
      chk (inb x6_28 6) <|
      some (.inl ((x5_28 ||| (q1.1 13 (Int32.toNatClampNeg x6_28))), (x6_28 + (1 : Int32))))
    else
      some (.inl ((x5_28 ||| (0 : Int32)), (x6_28 + (1 : Int32))))
def p_Md_setSum_L11 (a1 : Int32) (q1 : (Mem)) (x2_11 : Int64) (x4_11 : Int32) : Option ((Int64 × Int32) ⊕ (Int64 × Int32)) :=
  if ((1 : Int32) <<< ((q1.1 0 17) &&& 31)) ≤ x4_11 then
    some (.inr (x2_11, x4_11))
  else
    bnd (itr zfu (fun s => p_Md_setSum_L28 q1 x4_11 s.1 s.2) ((0 : Int32), (0 : Int32))) fun q11_2 =>
    if (q11_2.1 &&& a1) = 0 then
      chk (inb (q11_2.1 ||| a1) 64) <|
      chk (inb q11_2.1 64) <|
      some (.inl ((x2_11 + ((q1.2 12 (Int32.toNatClampNeg (q11_2.1 ||| a1))) - (q1.2 12 (Int32.toNatClampNeg q11_2.1)))), (x4_11 + (1 : Int32))))
    else
      some (.inl ((x2_11 + (0 : Int64)), (x4_11 + (1 : Int32))))
def p_Md_setSum (a1 : Int32) (M : Mem) : Option (Int64 × Mem) :=
  bnd (p_Md_listParts (0 : Int32) (0 : Int32) M) fun q1 =>
  bnd (itr zfu (fun s => p_Md_setSum_L11 a1 q1 s.1 s.2) ((0 : Int64), (0 : Int32))) fun q2 =>
  some (q2.1, q1)
-- ExactShares2Model.share(III)J
def p_Md_share (a1 : Int32) (a2 : Int32) (a3 : Int32) (M : Mem) : Option (Int64 × Mem) :=
  nm (wF M 0 0 (0 : Int32)) fun m1 =>
  bnd (p_Md_isColumn a1 m1) fun q2 =>
  if q2 = 0 then
    some ((-1000000000000 : Int64), m1)
  else
    bnd (p_Md_in a2 (0 : Int32) (1 : Int32) m1) fun q4 =>
    if q4 = 0 then
      some ((-1000000000000 : Int64), m1)
    else
      bnd (p_Md_in a3 (0 : Int32) (1 : Int32) m1) fun q6 =>
      if q6 = 0 then
        some ((-1000000000000 : Int64), m1)
      else
        bnd (p_Md_throwsNow  m1) fun q8 =>
        if q8.1 = 0 then
          bnd (p_Md_sumAll  q8.2) fun q10 =>
          chk (inb a1 6) <|
          bnd (p_Md_groupBits (q10.1 8 (Int32.toNatClampNeg a1)) q10) fun q12 =>
          if a2 = 0 then
            bnd (p_Md_shareSum q12 q10) fun q23 =>
            if a2 = 0 then
              bnd (p_Md_orders  q23.2) fun q27 =>
              bnd (p_Md_part q23.1 ((Int32.toInt64 (q23.2.1 0 13)) * (Int32.toInt64 q27)) a3 q23.2) fun q28 =>
              some (q28, q23.2)
            else
              bnd (p_Md_part q23.1 ((Int32.toInt64 (q23.2.1 0 13)) * (Int32.toInt64 ((1 : Int32) <<< (((q23.2.1 0 17) - (1 : Int32)) &&& 31)))) a3 q23.2) fun q25 =>
              some (q25, q23.2)
          else
            bnd (p_Md_setSum q12 q10) fun q14 =>
            if a2 = 0 then
              bnd (p_Md_orders  q14.2) fun q18 =>
              bnd (p_Md_part q14.1 ((Int32.toInt64 (q14.2.1 0 13)) * (Int32.toInt64 q18)) a3 q14.2) fun q19 =>
              some (q19, q14.2)
            else
              bnd (p_Md_part q14.1 ((Int32.toInt64 (q14.2.1 0 13)) * (Int32.toInt64 ((1 : Int32) <<< (((q14.2.1 0 17) - (1 : Int32)) &&& 31)))) a3 q14.2) fun q16 =>
              some (q16, q14.2)
        else
          some ((0 : Int64), q8.2)
-- ExactShares2Model.both(III)J
def p_Md_both_L100 (q15 : (Int32)) (q17 : (Int32)) (x6_100 : Int64) (x8_100 : Int32) (M_100 : Mem) : Option ((Int64 × Int32 × Mem) ⊕ (Int64 × Int32 × Mem)) :=
  bnd (p_Md_orders  M_100) fun q100_1 =>
  if q100_1 ≤ x8_100 then
    some (.inr (x6_100, x8_100, M_100))
  else
    bnd (p_Md_layOrder x8_100 M_100) fun q100_3 =>
    bnd (p_Md_before (q15 ||| q17) q100_3) fun q100_4 =>
    chk (inb ((q100_4 ||| q15) ||| q17) 64) <|
    chk (inb (q100_4 ||| q15) 64) <|
    chk (inb (q100_4 ||| q17) 64) <|
    chk (inb q100_4 64) <|
    some (.inl ((x6_100 + ((((q100_3.2 12 (Int32.toNatClampNeg ((q100_4 ||| q15) ||| q17))) - (q100_3.2 12 (Int32.toNatClampNeg (q100_4 ||| q15)))) - (q100_3.2 12 (Int32.toNatClampNeg (q100_4 ||| q17)))) + (q100_3.2 12 (Int32.toNatClampNeg q100_4)))), (x8_100 + (1 : Int32)), q100_3))
def p_Md_both (a1 : Int32) (a2 : Int32) (a3 : Int32) (M : Mem) : Option (Int64 × Mem) :=
  nm (wF M 0 0 (0 : Int32)) fun m1 =>
  bnd (p_Md_isColumn a1 m1) fun q2 =>
  if q2 = 0 then
    some ((-1000000000000 : Int64), m1)
  else
    bnd (p_Md_isColumn a2 m1) fun q4 =>
    if q4 = 0 then
      some ((-1000000000000 : Int64), m1)
    else
      bnd (p_Md_in a3 (0 : Int32) (1 : Int32) m1) fun q6 =>
      if q6 = 0 then
        some ((-1000000000000 : Int64), m1)
      else
        chk (inb a1 6) <|
        chk (inb a2 6) <|
        if (m1.1 8 (Int32.toNatClampNeg a1)) = (m1.1 8 (Int32.toNatClampNeg a2)) then
          some ((-1000000000000 : Int64), m1)
        else
          bnd (p_Md_throwsNow  m1) fun q11 =>
          if q11.1 = 0 then
            bnd (p_Md_sumAll  q11.2) fun q13 =>
            chk (inb a1 6) <|
            bnd (p_Md_groupBits (q13.1 8 (Int32.toNatClampNeg a1)) q13) fun q15 =>
            chk (inb a2 6) <|
            bnd (p_Md_groupBits (q13.1 8 (Int32.toNatClampNeg a2)) q13) fun q17 =>
            bnd (p_Md_listParts q15 q17 q13) fun q18 =>
            bnd (itr zfu (fun s => p_Md_both_L100 q15 q17 s.1 s.2.1 s.2.2) ((0 : Int64), (0 : Int32), q18)) fun q19 =>
            bnd (p_Md_orders  q19.2.2) fun q20 =>
            bnd (p_Md_part q19.1 ((Int32.toInt64 (q19.2.2.1 0 13)) * (Int32.toInt64 q20)) a3 q19.2.2) fun q21 =>
            some (q21, q19.2.2)
          else
            some ((0 : Int64), q11.2)
-- ExactShares2Model.drawn(IIII)J
def p_Md_drawn_L86 (x10_86 : Int32) (M_86 : Mem) : Option ((Int32 × Mem) ⊕ (Int32 × Mem)) :=
  if (M_86.1 0 17) ≤ x10_86 then
    some (.inr (x10_86, M_86))
  else
    chk (inb x10_86 6) <|
    nm (wI M_86 14 x10_86 x10_86) fun m86_3 =>
    some (.inl ((x10_86 + (1 : Int32)), m86_3))
def p_Md_drawn_L118 (x6_118 : Int32) (x10_118 : Int32) (M_118 : Mem) : Option ((Int32 × Int32 × Mem) ⊕ (Int32 × Int32 × Mem)) :=
  if x10_118 ≤ 0 then
    some (.inr (x6_118, x10_118, M_118))
  else
    chk (decide (¬ (x10_118 + (1 : Int32)) = 0)) <|
    chk (inb x10_118 6) <|
    chk (inb ((zush ((x6_118 * (1103515245 : Int32)) + (12345 : Int32)) (16 : Int32)) - (zush ((x6_118 * (1103515245 : Int32)) + (12345 : Int32)) (16 : Int32)) / (x10_118 + (1 : Int32)) * (x10_118 + (1 : Int32))) 6) <|
    chk (inb x10_118 6) <|
    nm (wI M_118 14 x10_118 (M_118.1 14 (Int32.toNatClampNeg ((zush ((x6_118 * (1103515245 : Int32)) + (12345 : Int32)) (16 : Int32)) - (zush ((x6_118 * (1103515245 : Int32)) + (12345 : Int32)) (16 : Int32)) / (x10_118 + (1 : Int32)) * (x10_118 + (1 : Int32)))))) fun m118_6 =>
    chk (inb ((zush ((x6_118 * (1103515245 : Int32)) + (12345 : Int32)) (16 : Int32)) - (zush ((x6_118 * (1103515245 : Int32)) + (12345 : Int32)) (16 : Int32)) / (x10_118 + (1 : Int32)) * (x10_118 + (1 : Int32))) 6) <|
    nm (wI m118_6 14 ((zush ((x6_118 * (1103515245 : Int32)) + (12345 : Int32)) (16 : Int32)) - (zush ((x6_118 * (1103515245 : Int32)) + (12345 : Int32)) (16 : Int32)) / (x10_118 + (1 : Int32)) * (x10_118 + (1 : Int32))) (M_118.1 14 (Int32.toNatClampNeg x10_118))) fun m118_8 =>
    some (.inl (((x6_118 * (1103515245 : Int32)) + (12345 : Int32)), (x10_118 + (-1 : Int32)), m118_8))
def p_Md_drawn_L77 (a3 : Int32) (q12 : (Int32)) (x6_77 : Int32) (x7_77 : Int64) (x9_77 : Int32) (M_77 : Mem) : Option ((Int32 × Int64 × Int32 × Mem) ⊕ (Int32 × Int64 × Int32 × Mem)) :=
  if a3 ≤ x9_77 then
    some (.inr (x6_77, x7_77, x9_77, M_77))
  else
    bnd (itr zfu (fun s => p_Md_drawn_L86 s.1 s.2) ((0 : Int32), M_77)) fun q77_2 =>
    bnd (itr zfu (fun s => p_Md_drawn_L118 s.1 s.2.1 s.2.2) (x6_77, ((q77_2.2.1 0 17) - (1 : Int32)), q77_2.2)) fun q77_3 =>
    bnd (p_Md_before q12 q77_3.2.2) fun q77_4 =>
    chk (inb (q77_4 ||| q12) 64) <|
    chk (inb q77_4 64) <|
    some (.inl (q77_3.1, (x7_77 + ((q77_3.2.2.2 12 (Int32.toNatClampNeg (q77_4 ||| q12))) - (q77_3.2.2.2 12 (Int32.toNatClampNeg q77_4)))), (x9_77 + (1 : Int32)), q77_3.2.2))
def p_Md_drawn (a1 : Int32) (a2 : Int32) (a3 : Int32) (a4 : Int32) (M : Mem) : Option (Int64 × Mem) :=
  nm (wF M 0 0 (0 : Int32)) fun m1 =>
  bnd (p_Md_isColumn a1 m1) fun q2 =>
  if q2 = 0 then
    some ((-1000000000000 : Int64), m1)
  else
    bnd (p_Md_in a3 (1 : Int32) (20 : Int32) m1) fun q4 =>
    if q4 = 0 then
      some ((-1000000000000 : Int64), m1)
    else
      bnd (p_Md_in a4 (0 : Int32) (1 : Int32) m1) fun q6 =>
      if q6 = 0 then
        some ((-1000000000000 : Int64), m1)
      else
        bnd (p_Md_throwsNow  m1) fun q8 =>
        if q8.1 = 0 then
          bnd (p_Md_sumAll  q8.2) fun q10 =>
          chk (inb a1 6) <|
          bnd (p_Md_groupBits (q10.1 8 (Int32.toNatClampNeg a1)) q10) fun q12 =>
          bnd (p_Md_listParts (0 : Int32) (0 : Int32) q10) fun q13 =>
          bnd (itr zfu (fun s => p_Md_drawn_L77 a3 q12 s.1 s.2.1 s.2.2.1 s.2.2.2) (a2, (0 : Int64), (0 : Int32), q13)) fun q14 =>
          bnd (p_Md_part q14.2.1 ((Int32.toInt64 (q14.2.2.2.1 0 13)) * (Int32.toInt64 a3)) a4 q14.2.2.2) fun q15 =>
          some (q15, q14.2.2.2)
        else
          some ((0 : Int64), q8.2)
-- ExactShares2Model.partial(III)J
def p_Md_partial_L52 (a1 : Int32) (a2 : Int32) (x4_52 : Int64) (x6_52 : Int32) (M_52 : Mem) : Option ((Int64 × Int32 × Mem) ⊕ (Int64 × Int32 × Mem)) :=
  if (M_52.1 0 13) < x6_52 then
    some (.inr (x4_52, x6_52, M_52))
  else
    bnd (p_Md_take x6_52 M_52) fun q52_2 =>
    chk (inb a1 6) <|
    nm (wI q52_2 11 a1 a2) fun m52_4 =>
    bnd (p_Md_answerNow  m52_4) fun q52_5 =>
    some (.inl ((x4_52 + q52_5), (x6_52 + (1 : Int32)), m52_4))
def p_Md_partial (a1 : Int32) (a2 : Int32) (a3 : Int32) (M : Mem) : Option (Int64 × Mem) :=
  nm (wF M 0 0 (0 : Int32)) fun m1 =>
  bnd (p_Md_isColumn a1 m1) fun q2 =>
  if q2 = 0 then
    some ((-1000000000000 : Int64), m1)
  else
    bnd (p_Md_in a2 (-100 : Int32) (100 : Int32) m1) fun q4 =>
    if q4 = 0 then
      some ((-1000000000000 : Int64), m1)
    else
      bnd (p_Md_in a3 (0 : Int32) (1 : Int32) m1) fun q6 =>
      if q6 = 0 then
        some ((-1000000000000 : Int64), m1)
      else
        bnd (p_Md_throwsNow  m1) fun q8 =>
        if q8.1 = 0 then
          bnd (itr zfu (fun s => p_Md_partial_L52 a1 a2 s.1 s.2.1 s.2.2) ((0 : Int64), (1 : Int32), q8.2)) fun q10 =>
          bnd (p_Md_part q10.1 (Int32.toInt64 (q10.2.2.1 0 13)) a3 q10.2.2) fun q11 =>
          some (q11, q10.2.2)
        else
          some ((0 : Int64), q8.2)
-- ExactShares2Model.worth(II)J
def p_Md_worth_L64 (a1 : Int32) (q40_3 : (Int64)) (x3_64 : Int64) (x8_64 : Int32) (M_64 : Mem) : Option ((Int64 × Int32 × Mem) ⊕ (Int64 × Int32 × Mem)) :=
  if (M_64.1 0 13) < x8_64 then
    some (.inr (x3_64, x8_64, M_64))
  else
    chk (inb (((6 : Int32) * x8_64) + a1) 36) <|
    chk (inb a1 6) <|
    nm (wI M_64 11 a1 (M_64.1 10 (Int32.toNatClampNeg (((6 : Int32) * x8_64) + a1)))) fun m64_4 =>
    bnd (p_Md_answerNow  m64_4) fun q64_5 =>
    some (.inl ((x3_64 + ((q64_5 - q40_3) * (q64_5 - q40_3))), (x8_64 + (1 : Int32)), m64_4))
def p_Md_worth_L40 (a1 : Int32) (x3_40 : Int64) (x5_40 : Int32) (M_40 : Mem) : Option ((Int64 × Int32 × Mem) ⊕ (Int64 × Int32 × Mem)) :=
  if (M_40.1 0 13) < x5_40 then
    some (.inr (x3_40, x5_40, M_40))
  else
    bnd (p_Md_take x5_40 M_40) fun q40_2 =>
    bnd (p_Md_answerNow  q40_2) fun q40_3 =>
    bnd (itr zfu (fun s => p_Md_worth_L64 a1 q40_3 s.1 s.2.1 s.2.2) (x3_40, (1 : Int32), q40_2)) fun q40_4 =>
    some (.inl (q40_4.1, (x5_40 + (1 : Int32)), q40_4.2.2))
def p_Md_worth (a1 : Int32) (a2 : Int32) (M : Mem) : Option (Int64 × Mem) :=
  nm (wF M 0 0 (0 : Int32)) fun m1 =>
  bnd (p_Md_isColumn a1 m1) fun q2 =>
  if q2 = 0 then
    some ((-1000000000000 : Int64), m1)
  else
    bnd (p_Md_in a2 (0 : Int32) (1 : Int32) m1) fun q4 =>
    if q4 = 0 then
      some ((-1000000000000 : Int64), m1)
    else
      bnd (p_Md_throwsNow  m1) fun q6 =>
      if q6.1 = 0 then
        bnd (itr zfu (fun s => p_Md_worth_L40 a1 s.1 s.2.1 s.2.2) ((0 : Int64), (1 : Int32), q6.2)) fun q8 =>
        bnd (p_Md_part q8.1 ((Int32.toInt64 (q8.2.2.1 0 13)) * (Int32.toInt64 (q8.2.2.1 0 13))) a2 q8.2.2) fun q9 =>
        some (q9, q8.2.2)
      else
        some ((0 : Int64), q6.2)
-- ExactShares2Model.findSizes()V
def p_Md_findSizes_L2 (x1_2 : Int32) (M_2 : Mem) : Option ((Int32 × Mem) ⊕ (Int32 × Mem)) :=
  if (M_2.1 0 1) ≤ x1_2 then
    some (.inr (x1_2, M_2))
  else
    bnd (p_Md_groupBits x1_2 M_2) fun q2_2 =>
    if q2_2 = 0 then
      if 0 ≤ (lg_cmp (0 : Int64) (0 : Int64)) then
        chk (inb x1_2 6) <|
        nm (wL M_2 15 x1_2 (0 : Int64)) fun m2_15 =>
        some (.inl ((x1_2 + (1 : Int32)), m2_15))
      else
        chk (inb x1_2 6) <|
        nm (wL M_2 15 x1_2 (-(0 : Int64))) fun m2_17 =>
        some (.inl ((x1_2 + (1 : Int32)), m2_17))
    else
      bnd (p_Md_groupBits x1_2 M_2) fun q2_4 =>
      bnd (p_Md_shareSum q2_4 M_2) fun q2_5 =>
      if 0 ≤ (lg_cmp q2_5.1 (0 : Int64)) then
        chk (inb x1_2 6) <|
        nm (wL q2_5.2 15 x1_2 q2_5.1) fun m2_8 =>
        some (.inl ((x1_2 + (1 : Int32)), m2_8))
      else
        chk (inb x1_2 6) <|
        nm (wL q2_5.2 15 x1_2 (-q2_5.1)) fun m2_10 =>
        some (.inl ((x1_2 + (1 : Int32)), m2_10))
def p_Md_findSizes  (M : Mem) : Option (Mem) :=
  bnd (itr zfu (fun s => p_Md_findSizes_L2 s.1 s.2) ((0 : Int32), M)) fun q1 =>
  some q1.2
-- ExactShares2Model.rank(I)I
def p_Md_rank_L63 (q7 : (Mem)) (x3_49 : Int32) (x4_63 : Int32) (x5_63 : Int32) : Option ((Int32 × Int32) ⊕ (Int32 × Int32)) :=
  if (q7.1 0 1) ≤ x5_63 then
    some (.inr (x4_63, x5_63))
  else
    bnd (p_Md_groupBits x3_49 q7) fun q63_2 =>
    if q63_2 = 0 then
      some (.inr (x4_63, x5_63))
    else
      if x5_63 = x3_49 then
        some (.inl ((x4_63 + (0 : Int32)), (x5_63 + (1 : Int32))))
      else
        bnd (p_Md_groupBits x5_63 q7) fun q63_6 =>
        if q63_6 = 0 then
          some (.inl ((x4_63 + (0 : Int32)), (x5_63 + (1 : Int32))))
        else
          chk (inb x5_63 6) <|
          chk (inb x3_49 6) <|
          if 0 < (lg_cmp (q7.2 15 (Int32.toNatClampNeg x5_63)) (q7.2 15 (Int32.toNatClampNeg x3_49))) then
            some (.inl ((x4_63 + (1 : Int32)), (x5_63 + (1 : Int32))))
          else
            chk (inb x5_63 6) <|
            chk (inb x3_49 6) <|
            if (lg_cmp (q7.2 15 (Int32.toNatClampNeg x5_63)) (q7.2 15 (Int32.toNatClampNeg x3_49))) = 0 then
              if x3_49 ≤ x5_63 then
                some (.inl ((x4_63 + (0 : Int32)), (x5_63 + (1 : Int32))))
              else
                some (.inl ((x4_63 + (1 : Int32)), (x5_63 + (1 : Int32))))
            else
              some (.inl ((x4_63 + (0 : Int32)), (x5_63 + (1 : Int32))))
def p_Md_rank_L49 (a1 : Int32) (q7 : (Mem)) (x2_49 : Int32) (x3_49 : Int32) : Option ((Int32 × Int32) ⊕ (Int32 × Int32)) :=
  if (q7.1 0 1) ≤ x3_49 then
    some (.inr (x2_49, x3_49))
  else
    bnd (itr zfu (fun s => p_Md_rank_L63 q7 x3_49 s.1 s.2) ((0 : Int32), (0 : Int32))) fun q49_2 =>
    bnd (p_Md_groupBits x3_49 q7) fun q49_3 =>
    if q49_3 = 0 then
      some (.inl (x2_49, (x3_49 + (1 : Int32))))
    else
      if q49_2.1 = a1 then
        some (.inl (x3_49, (x3_49 + (1 : Int32))))
      else
        some (.inl (x2_49, (x3_49 + (1 : Int32))))
def p_Md_rank (a1 : Int32) (M : Mem) : Option (Int32 × Mem) :=
  nm (wF M 0 0 (0 : Int32)) fun m1 =>
  bnd (p_Md_listParts (0 : Int32) (0 : Int32) m1) fun q2 =>
  bnd (p_Md_in a1 (0 : Int32) ((q2.1 0 17) - (1 : Int32)) q2) fun q3 =>
  if q3 = 0 then
    some ((-1 : Int32), q2)
  else
    if (q2.1 0 13) = 0 then
      some ((-3 : Int32), q2)
    else
      bnd (p_Md_sumAll  q2) fun q6 =>
      bnd (p_Md_findSizes  q6) fun q7 =>
      bnd (itr zfu (fun s => p_Md_rank_L49 a1 q7 s.1 s.2) ((-1 : Int32), (0 : Int32))) fun q8 =>
      some (q8.1, q7)
-- ExactShares2Model.bar(IZ)I
def p_Md_bar (a1 : Int32) (a2 : Int32) (M : Mem) : Option (Int32 × Mem) :=
  nm (wF M 0 0 (0 : Int32)) fun m1 =>
  bnd (p_Md_isColumn a1 m1) fun q2 =>
  if q2 = 0 then
    some ((-1 : Int32), m1)
  else
    chk (inb a1 6) <|
    if (m1.1 9 (Int32.toNatClampNeg a1)) = 0 then
      chk (inb a1 6) <|
      nm (wI m1 9 a1 (vp_nar .boolean a2)) fun m7 =>
      some ((0 : Int32), m7)
    else
      chk (inb a1 6) <|
      nm (wI m1 9 a1 (vp_nar .boolean a2)) fun m9 =>
      some ((1 : Int32), m9)
-- ExactShares2Model.hold(Z)V
def p_Md_hold_L10 (M : Mem) (x2_10 : Int32) (x3_10 : Int32) (x4_10 : Int32) (x5_10 : Int32) : Option ((Int32 × Int32 × Int32 × Int32) ⊕ (Int32 × Int32 × Int32 × Int32)) :=
  if (M.1 0 1) ≤ x5_10 then
    some (.inr (x2_10, x3_10, x4_10, x5_10))
  else
    chk (inb x5_10 6) <|
    chk (inb x5_10 36) <|
    if ((M.1 11 (Int32.toNatClampNeg x5_10)) - (M.1 10 (Int32.toNatClampNeg x5_10))) = 0 then
      if 0 ≤ ((M.1 11 (Int32.toNatClampNeg x5_10)) - (M.1 10 (Int32.toNatClampNeg x5_10))) then
        if x4_10 = 0 then
          chk (inb x5_10 6) <|
          chk (inb x5_10 6) <|
          some (.inl ((x2_10 + (0 : Int32)), (x3_10 + ((M.1 11 (Int32.toNatClampNeg x5_10)) - (M.1 10 (Int32.toNatClampNeg x5_10)))), ((M.1 11 (Int32.toNatClampNeg x5_10)) - (M.1 17 (Int32.toNatClampNeg x5_10))), (x5_10 + (1 : Int32))))
        else
          some (.inl ((x2_10 + (0 : Int32)), (x3_10 + ((M.1 11 (Int32.toNatClampNeg x5_10)) - (M.1 10 (Int32.toNatClampNeg x5_10)))), x4_10, (x5_10 + (1 : Int32))))
      else
        if x4_10 = 0 then
          chk (inb x5_10 6) <|
          chk (inb x5_10 6) <|
          some (.inl ((x2_10 + (0 : Int32)), (x3_10 + (-((M.1 11 (Int32.toNatClampNeg x5_10)) - (M.1 10 (Int32.toNatClampNeg x5_10))))), ((M.1 11 (Int32.toNatClampNeg x5_10)) - (M.1 17 (Int32.toNatClampNeg x5_10))), (x5_10 + (1 : Int32))))
        else
          some (.inl ((x2_10 + (0 : Int32)), (x3_10 + (-((M.1 11 (Int32.toNatClampNeg x5_10)) - (M.1 10 (Int32.toNatClampNeg x5_10))))), x4_10, (x5_10 + (1 : Int32))))
    else
      if 0 ≤ ((M.1 11 (Int32.toNatClampNeg x5_10)) - (M.1 10 (Int32.toNatClampNeg x5_10))) then
        if x4_10 = 0 then
          chk (inb x5_10 6) <|
          chk (inb x5_10 6) <|
          some (.inl ((x2_10 + (1 : Int32)), (x3_10 + ((M.1 11 (Int32.toNatClampNeg x5_10)) - (M.1 10 (Int32.toNatClampNeg x5_10)))), ((M.1 11 (Int32.toNatClampNeg x5_10)) - (M.1 17 (Int32.toNatClampNeg x5_10))), (x5_10 + (1 : Int32))))
        else
          some (.inl ((x2_10 + (1 : Int32)), (x3_10 + ((M.1 11 (Int32.toNatClampNeg x5_10)) - (M.1 10 (Int32.toNatClampNeg x5_10)))), x4_10, (x5_10 + (1 : Int32))))
      else
        if x4_10 = 0 then
          chk (inb x5_10 6) <|
          chk (inb x5_10 6) <|
          some (.inl ((x2_10 + (1 : Int32)), (x3_10 + (-((M.1 11 (Int32.toNatClampNeg x5_10)) - (M.1 10 (Int32.toNatClampNeg x5_10))))), ((M.1 11 (Int32.toNatClampNeg x5_10)) - (M.1 17 (Int32.toNatClampNeg x5_10))), (x5_10 + (1 : Int32))))
        else
          some (.inl ((x2_10 + (1 : Int32)), (x3_10 + (-((M.1 11 (Int32.toNatClampNeg x5_10)) - (M.1 10 (Int32.toNatClampNeg x5_10))))), x4_10, (x5_10 + (1 : Int32))))
def p_Md_hold_L152 (x5_152 : Int32) (M_152 : Mem) : Option ((Int32 × Mem) ⊕ (Int32 × Mem)) :=
  if (M_152.1 0 1) ≤ x5_152 then
    some (.inr (x5_152, M_152))
  else
    chk (inb x5_152 6) <|
    chk (inb x5_152 6) <|
    nm (wI M_152 17 x5_152 (M_152.1 11 (Int32.toNatClampNeg x5_152))) fun m152_4 =>
    some (.inl ((x5_152 + (1 : Int32)), m152_4))
def p_Md_hold (a1 : Int32) (M : Mem) : Option (Mem) :=
  bnd (itr zfu (fun s => p_Md_hold_L10 M s.1 s.2.1 s.2.2.1 s.2.2.2) ((0 : Int32), (0 : Int32), (0 : Int32), (0 : Int32))) fun q1 =>
  if a1 = 0 then
    if q1.1 < (M.1 0 23) then
      nm (wF M 0 23 q1.1) fun m7 =>
      nm (wF m7 0 24 q1.2.1) fun m8 =>
      bnd (itr zfu (fun s => p_Md_hold_L152 s.1 s.2) ((0 : Int32), m8)) fun q9 =>
      some q9.2
    else
      if q1.1 = (M.1 0 23) then
        if q1.2.1 < (M.1 0 24) then
          nm (wF M 0 23 q1.1) fun m12 =>
          nm (wF m12 0 24 q1.2.1) fun m13 =>
          bnd (itr zfu (fun s => p_Md_hold_L152 s.1 s.2) ((0 : Int32), m13)) fun q14 =>
          some q14.2
        else
          if q1.2.1 = (M.1 0 24) then
            if 0 ≤ q1.2.2.1 then
              some M
            else
              nm (wF M 0 23 q1.1) fun m17 =>
              nm (wF m17 0 24 q1.2.1) fun m18 =>
              bnd (itr zfu (fun s => p_Md_hold_L152 s.1 s.2) ((0 : Int32), m18)) fun q19 =>
              some q19.2
          else
            some M
      else
        some M
  else
    nm (wF M 0 23 q1.1) fun m3 =>
    nm (wF m3 0 24 q1.2.1) fun m4 =>
    bnd (itr zfu (fun s => p_Md_hold_L152 s.1 s.2) ((0 : Int32), m4)) fun q5 =>
    some q5.2
-- ExactShares2Model.next(I)I
def p_Md_next_L28 (a1 : Int32) (M : Mem) (x2_11 : Int32) (x3_28 : Int32) (x4_28 : Int32) : Option ((Int32 × Int32) ⊕ (Int32 × Int32)) :=
  if x2_11 ≤ x4_28 then
    some (.inr (x3_28, x4_28))
  else
    if x3_28 = 0 then
      some (.inl ((0 : Int32), (x4_28 + (1 : Int32))))
    else
      chk (inb (((6 : Int32) * x4_28) + a1) 36) <|
      chk (inb (((6 : Int32) * x2_11) + a1) 36) <|
      if (M.1 10 (Int32.toNatClampNeg (((6 : Int32) * x4_28) + a1))) = (M.1 10 (Int32.toNatClampNeg (((6 : Int32) * x2_11) + a1))) then
        some (.inl ((0 : Int32), (x4_28 + (1 : Int32))))
      else
        some (.inl ((1 : Int32), (x4_28 + (1 : Int32))))
def p_Md_next_L11 (a1 : Int32) (M : Mem) (x2_11 : Int32) (x3_11 : Int32) : Option ((Int32 × Int32) ⊕ (Int32 × Int32)) :=
  if (M.1 0 13) < x2_11 then
    some (.inr (x2_11, x3_11))
  else
    if x3_11 = 0 then
      bnd (itr zfu (fun s => p_Md_next_L28 a1 M x2_11 s.1 s.2) ((1 : Int32), (0 : Int32))) fun q11_3 =>
      if q11_3.1 = 0 then
        some (.inl ((x2_11 + (1 : Int32)), q11_3.1))
      else
        some (.inl ((x2_11 + (0 : Int32)), q11_3.1))
    else
      some (.inr (x2_11, x3_11))
def p_Md_next (a1 : Int32) (M : Mem) : Option (Int32) :=
  chk (inb a1 6) <|
  bnd (itr zfu (fun s => p_Md_next_L11 a1 M s.1 s.2) (((M.1 16 (Int32.toNatClampNeg a1)) + (1 : Int32)), (0 : Int32))) fun q2 =>
  chk (inb a1 6) <|
  if (M.1 9 (Int32.toNatClampNeg a1)) = 0 then
    some q2.1
  else
    some ((M.1 0 13) + (1 : Int32))
-- ExactShares2Model.findNearest(I)Z
def p_Md_findNearest_L2 (x2_2 : Int32) (M_2 : Mem) : Option ((Int32 × Mem) ⊕ (Int32 × Mem)) :=
  if (M_2.1 0 1) ≤ x2_2 then
    some (.inr (x2_2, M_2))
  else
    chk (inb x2_2 6) <|
    nm (wI M_2 16 x2_2 (0 : Int32)) fun m2_3 =>
    some (.inl ((x2_2 + (1 : Int32)), m2_3))
def p_Md_findNearest_L38 (x4_38 : Int32) (M_38 : Mem) : Option ((Int32 × Mem) ⊕ (Int32 × Mem)) :=
  if (M_38.1 0 1) ≤ x4_38 then
    some (.inr (x4_38, M_38))
  else
    chk (inb x4_38 6) <|
    chk (inb (((6 : Int32) * (M_38.1 16 (Int32.toNatClampNeg x4_38))) + x4_38) 36) <|
    chk (inb x4_38 6) <|
    nm (wI M_38 11 x4_38 (M_38.1 10 (Int32.toNatClampNeg (((6 : Int32) * (M_38.1 16 (Int32.toNatClampNeg x4_38))) + x4_38)))) fun m38_5 =>
    some (.inl ((x4_38 + (1 : Int32)), m38_5))
def p_Md_findNearest_L105 (x3_105 : Int32) (M_105 : Mem) : Option ((Int32 × Mem) ⊕ (Int32 × Mem)) :=
  if (M_105.1 0 1) ≤ x3_105 then
    some (.inr (x3_105, M_105))
  else
    bnd (p_Md_next x3_105 M_105) fun q105_2 =>
    if q105_2 ≤ (M_105.1 0 13) then
      some (.inr (x3_105, M_105))
    else
      chk (inb x3_105 6) <|
      nm (wI M_105 16 x3_105 (0 : Int32)) fun m105_5 =>
      some (.inl ((x3_105 + (1 : Int32)), m105_5))
def p_Md_findNearest_L27 (a1 : Int32) (x2_27 : Int32) (x3_27 : Int32) (M_27 : Mem) : Option ((Int32 × Int32 × Mem) ⊕ (Int32 × Int32 × Mem)) :=
  if (M_27.1 0 1) ≤ x3_27 then
    some (.inr (x2_27, x3_27, M_27))
  else
    bnd (itr zfu (fun s => p_Md_findNearest_L38 s.1 s.2) ((0 : Int32), M_27)) fun q27_2 =>
    bnd (p_Md_answerNow  q27_2.2) fun q27_3 =>
    if (lg_cmp q27_3 (Int32.toInt64 a1)) < 0 then
      bnd (itr zfu (fun s => p_Md_findNearest_L105 s.1 s.2) ((0 : Int32), q27_2.2)) fun q27_5 =>
      if (q27_5.2.1 0 1) ≤ q27_5.1 then
        some (.inl (x2_27, q27_5.1, q27_5.2))
      else
        bnd (p_Md_next q27_5.1 q27_5.2) fun q27_7 =>
        chk (inb q27_5.1 6) <|
        nm (wI q27_5.2 16 q27_5.1 q27_7) fun m27_9 =>
        some (.inl (x2_27, q27_5.1, m27_9))
    else
      if x2_27 = 0 then
        bnd (p_Md_hold (1 : Int32) q27_2.2) fun q27_20 =>
        bnd (itr zfu (fun s => p_Md_findNearest_L105 s.1 s.2) ((0 : Int32), q27_20)) fun q27_21 =>
        if (q27_21.2.1 0 1) ≤ q27_21.1 then
          some (.inl ((1 : Int32), q27_21.1, q27_21.2))
        else
          bnd (p_Md_next q27_21.1 q27_21.2) fun q27_23 =>
          chk (inb q27_21.1 6) <|
          nm (wI q27_21.2 16 q27_21.1 q27_23) fun m27_25 =>
          some (.inl ((1 : Int32), q27_21.1, m27_25))
      else
        bnd (p_Md_hold (0 : Int32) q27_2.2) fun q27_12 =>
        bnd (itr zfu (fun s => p_Md_findNearest_L105 s.1 s.2) ((0 : Int32), q27_12)) fun q27_13 =>
        if (q27_13.2.1 0 1) ≤ q27_13.1 then
          some (.inl ((1 : Int32), q27_13.1, q27_13.2))
        else
          bnd (p_Md_next q27_13.1 q27_13.2) fun q27_15 =>
          chk (inb q27_13.1 6) <|
          nm (wI q27_13.2 16 q27_13.1 q27_15) fun m27_17 =>
          some (.inl ((1 : Int32), q27_13.1, m27_17))
def p_Md_findNearest (a1 : Int32) (M : Mem) : Option (Int32 × Mem) :=
  bnd (itr zfu (fun s => p_Md_findNearest_L2 s.1 s.2) ((0 : Int32), M)) fun q1 =>
  bnd (itr zfu (fun s => p_Md_findNearest_L27 a1 s.1 s.2.1 s.2.2) ((0 : Int32), (0 : Int32), q1.2)) fun q2 =>
  chk (zbl q2.1) <|
  some (q2.1, q2.2.2)
-- ExactShares2Model.nearest(I)I
def p_Md_nearest (a1 : Int32) (M : Mem) : Option (Int32 × Mem) :=
  nm (wF M 0 0 (0 : Int32)) fun m1 =>
  bnd (p_Md_findNearest a1 m1) fun q2 =>
  if q2.1 = 0 then
    some ((-3 : Int32), q2.2)
  else
    some ((q2.2.1 0 23), q2.2)
-- ExactShares2Model.nearestAt(II)J
def p_Md_nearestAt (a1 : Int32) (a2 : Int32) (M : Mem) : Option (Int64 × Mem) :=
  nm (wF M 0 0 (0 : Int32)) fun m1 =>
  bnd (p_Md_isColumn a2 m1) fun q2 =>
  if q2 = 0 then
    some ((-1000000000000 : Int64), m1)
  else
    bnd (p_Md_findNearest a1 m1) fun q4 =>
    if q4.1 = 0 then
      some ((-1000000000000 : Int64), q4.2)
    else
      chk (inb a2 6) <|
      some ((Int32.toInt64 (q4.2.1 17 (Int32.toNatClampNeg a2))), q4.2)
