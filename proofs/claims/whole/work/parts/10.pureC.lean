-- ExactShares2$Learner.addNode(IIII)I
def p_Ln_addNode (a1 : Int32) (a2 : Int32) (a3 : Int32) (a4 : Int32) (M : Mem) : Option (Int32 × Mem) :=
  if (M.1 1 7) < (30 : Int32) then
    chk (inb (M.1 1 7) 30) <|
    nm (wI M 2 (M.1 1 7) a1) fun m3 =>
    chk (inb (m3.1 1 7) 30) <|
    nm (wI m3 3 (m3.1 1 7) a2) fun m5 =>
    chk (inb (m5.1 1 7) 30) <|
    nm (wI m5 4 (m5.1 1 7) a3) fun m7 =>
    chk (inb (m7.1 1 7) 30) <|
    nm (wI m7 5 (m7.1 1 7) a4) fun m9 =>
    nm (wF m9 1 7 ((m9.1 1 7) + (1 : Int32))) fun m10 =>
    some (((m10.1 1 7) - (1 : Int32)), m10)
  else
    some ((-4 : Int32), M)
-- ExactShares2$Learner.addLeaf(I)I
def p_Ln_addLeaf (a1 : Int32) (M : Mem) : Option (Int32 × Mem) :=
  bnd (p_Ln_addNode (-1 : Int32) a1 (0 : Int32) (0 : Int32) M) fun q1 =>
  some (q1.1, q1.2)
-- ExactShares2$Learner.hasNode(I)Z
def p_Ln_hasNode (a1 : Int32) (M : Mem) : Option (Int32) :=
  if a1 < 0 then
    some (0 : Int32)
  else
    if (M.1 1 7) ≤ a1 then
      some (0 : Int32)
    else
      some (1 : Int32)
-- ExactShares2$Learner.addSplit(IIII)I
def p_Ln_addSplit (a1 : Int32) (a2 : Int32) (a3 : Int32) (a4 : Int32) (M : Mem) : Option (Int32 × Mem) :=
  bnd (p_Ln_addNode a1 a2 a3 a4 M) fun q1 =>
  some (q1.1, q1.2)
-- ExactShares2$Learner.addRoot(I)I
def p_Ln_addRoot (a1 : Int32) (M : Mem) : Option (Int32 × Mem) :=
  if (M.1 1 8) < (4 : Int32) then
    chk (inb (M.1 1 8) 4) <|
    nm (wI M 7 (M.1 1 8) a1) fun m3 =>
    nm (wF m3 1 8 ((m3.1 1 8) + (1 : Int32))) fun m4 =>
    some ((m4.1 1 8), m4)
  else
    some ((-4 : Int32), M)
-- ExactShares2$Learner.weigh(II)V
def p_Ln_weigh (a1 : Int32) (a2 : Int32) (M : Mem) : Option (Mem) :=
  chk (inb a1 6) <|
  nm (wI M 8 a1 a2) fun m2 =>
  some m2
-- ExactShares2$Learner.forget()I
def p_Ln_forget_L17 (x2_17 : Int32) (M_17 : Mem) : Option ((Int32 × Mem) ⊕ (Int32 × Mem)) :=
  if (6 : Int32) ≤ x2_17 then
    some (.inr (x2_17, M_17))
  else
    chk (inb x2_17 6) <|
    nm (wI M_17 8 x2_17 (0 : Int32)) fun m17_3 =>
    some (.inl ((x2_17 + (1 : Int32)), m17_3))
def p_Ln_forget  (M : Mem) : Option (Int32 × Mem) :=
  nm (wF M 1 7 (0 : Int32)) fun m1 =>
  nm (wF m1 1 8 (0 : Int32)) fun m2 =>
  bnd (itr zfu (fun s => p_Ln_forget_L17 s.1 s.2) ((0 : Int32), m2)) fun q3 =>
  some ((M.1 1 7), q3.2)
-- ExactShares2$Learner.givenBy(I[I)I
def p_Ln_givenBy_L5 (a2 : Nat) (M : Mem) (x3_5 : Int32) (x4_5 : Int32) : Option ((Int32 × Int32) ⊕ (Int32 × Int32)) :=
  if (M.1 1 7) ≤ x4_5 then
    some (.inr (x3_5, x4_5))
  else
    chk (inb x3_5 30) <|
    if (M.1 2 (Int32.toNatClampNeg x3_5)) = (-1 : Int32) then
      some (.inr (x3_5, x4_5))
    else
      chk (inb x3_5 30) <|
      chk (inb (M.1 2 (Int32.toNatClampNeg x3_5)) (alenC a2)) <|
      chk (inb x3_5 30) <|
      if (M.1 3 (Int32.toNatClampNeg x3_5)) < (M.1 a2 (Int32.toNatClampNeg (M.1 2 (Int32.toNatClampNeg x3_5)))) then
        chk (inb x3_5 30) <|
        some (.inl ((M.1 5 (Int32.toNatClampNeg x3_5)), (x4_5 + (1 : Int32))))
      else
        chk (inb x3_5 30) <|
        some (.inl ((M.1 4 (Int32.toNatClampNeg x3_5)), (x4_5 + (1 : Int32))))
def p_Ln_givenBy (a1 : Int32) (a2 : Nat) (M : Mem) : Option (Int32) :=
  bnd (itr zfu (fun s => p_Ln_givenBy_L5 a2 M s.1 s.2) (a1, (0 : Int32))) fun q1 =>
  chk (inb q1.1 30) <|
  some (M.1 3 (Int32.toNatClampNeg q1.1))
-- ExactShares2$Learner.sumFor([I)I
def p_Ln_sumFor_L4 (a1 : Nat) (M : Mem) (x2_4 : Int32) (x3_4 : Int32) : Option ((Int32 × Int32) ⊕ (Int32 × Int32)) :=
  if (M.1 1 8) ≤ x3_4 then
    some (.inr (x2_4, x3_4))
  else
    chk (inb x3_4 4) <|
    bnd (p_Ln_givenBy (M.1 7 (Int32.toNatClampNeg x3_4)) a1 M) fun q4_3 =>
    some (.inl ((x2_4 + q4_3), (x3_4 + (1 : Int32))))
def p_Ln_sumFor_L34 (a1 : Nat) (M : Mem) (x2_34 : Int32) (x3_34 : Int32) : Option ((Int32 × Int32) ⊕ (Int32 × Int32)) :=
  if (6 : Int32) ≤ x3_34 then
    some (.inr (x2_34, x3_34))
  else
    chk (inb x3_34 6) <|
    chk (inb x3_34 (alenC a1)) <|
    some (.inl ((x2_34 + ((M.1 8 (Int32.toNatClampNeg x3_34)) * (M.1 a1 (Int32.toNatClampNeg x3_34)))), (x3_34 + (1 : Int32))))
def p_Ln_sumFor (a1 : Nat) (M : Mem) : Option (Int32) :=
  bnd (itr zfu (fun s => p_Ln_sumFor_L4 a1 M s.1 s.2) ((0 : Int32), (0 : Int32))) fun q1 =>
  bnd (itr zfu (fun s => p_Ln_sumFor_L34 a1 M s.1 s.2) (q1.1, (0 : Int32))) fun q2 =>
  some q2.1
-- ExactShares2$Learner.peakOf(I[I[I)I
def p_Ln_peakOf (a1 : Int32) (a2 : Nat) (a3 : Nat) (M : Mem) : Option (Int32) :=
  chk (inb a1 30) <|
  if (M.1 2 (Int32.toNatClampNeg a1)) = (-1 : Int32) then
    chk (inb a1 30) <|
    some (M.1 3 (Int32.toNatClampNeg a1))
  else
    chk (inb (M.1 2 (Int32.toNatClampNeg a1)) (alenC a3)) <|
    chk (inb a1 30) <|
    if (M.1 3 (Int32.toNatClampNeg a1)) < (M.1 a3 (Int32.toNatClampNeg (M.1 2 (Int32.toNatClampNeg a1)))) then
      chk (inb (M.1 2 (Int32.toNatClampNeg a1)) (alenC a2)) <|
      chk (inb a1 30) <|
      if (M.1 a2 (Int32.toNatClampNeg (M.1 2 (Int32.toNatClampNeg a1)))) ≤ (M.1 3 (Int32.toNatClampNeg a1)) then
        chk (inb a1 30) <|
        chk (inb (M.1 4 (Int32.toNatClampNeg a1)) 30) <|
        chk (inb a1 30) <|
        chk (inb (M.1 5 (Int32.toNatClampNeg a1)) 30) <|
        some (if (M.1 6 (Int32.toNatClampNeg (M.1 4 (Int32.toNatClampNeg a1)))) < (M.1 6 (Int32.toNatClampNeg (M.1 5 (Int32.toNatClampNeg a1)))) then (M.1 6 (Int32.toNatClampNeg (M.1 5 (Int32.toNatClampNeg a1)))) else (M.1 6 (Int32.toNatClampNeg (M.1 4 (Int32.toNatClampNeg a1)))))
      else
        chk (inb a1 30) <|
        chk (inb (M.1 5 (Int32.toNatClampNeg a1)) 30) <|
        some (M.1 6 (Int32.toNatClampNeg (M.1 5 (Int32.toNatClampNeg a1))))
    else
      chk (inb a1 30) <|
      chk (inb (M.1 4 (Int32.toNatClampNeg a1)) 30) <|
      some (M.1 6 (Int32.toNatClampNeg (M.1 4 (Int32.toNatClampNeg a1))))
-- ExactShares2$Learner.boundWithin([I[I)I
def p_Ln_boundWithin_L2 (a1 : Nat) (a2 : Nat) (x3_2 : Int32) (M_2 : Mem) : Option ((Int32 × Mem) ⊕ (Int32 × Mem)) :=
  if (M_2.1 1 7) ≤ x3_2 then
    some (.inr (x3_2, M_2))
  else
    bnd (p_Ln_peakOf x3_2 a1 a2 M_2) fun q2_2 =>
    chk (inb x3_2 30) <|
    nm (wI M_2 6 x3_2 q2_2) fun m2_4 =>
    some (.inl ((x3_2 + (1 : Int32)), m2_4))
def p_Ln_boundWithin_L34 (q1 : (Int32 × Mem)) (x3_34 : Int32) (x4_34 : Int32) : Option ((Int32 × Int32) ⊕ (Int32 × Int32)) :=
  if (q1.2.1 1 8) ≤ x4_34 then
    some (.inr (x3_34, x4_34))
  else
    chk (inb x4_34 4) <|
    chk (inb (q1.2.1 7 (Int32.toNatClampNeg x4_34)) 30) <|
    some (.inl ((x3_34 + (q1.2.1 6 (Int32.toNatClampNeg (q1.2.1 7 (Int32.toNatClampNeg x4_34))))), (x4_34 + (1 : Int32))))
def p_Ln_boundWithin_L67 (a1 : Nat) (a2 : Nat) (q1 : (Int32 × Mem)) (x3_67 : Int32) (x4_67 : Int32) : Option ((Int32 × Int32) ⊕ (Int32 × Int32)) :=
  if (6 : Int32) ≤ x4_67 then
    some (.inr (x3_67, x4_67))
  else
    chk (inb x4_67 6) <|
    chk (inb x4_67 (alenC a1)) <|
    chk (inb x4_67 6) <|
    chk (inb x4_67 (alenC a2)) <|
    some (.inl ((x3_67 + (if ((q1.2.1 8 (Int32.toNatClampNeg x4_67)) * (q1.2.1 a1 (Int32.toNatClampNeg x4_67))) < ((q1.2.1 8 (Int32.toNatClampNeg x4_67)) * (q1.2.1 a2 (Int32.toNatClampNeg x4_67))) then ((q1.2.1 8 (Int32.toNatClampNeg x4_67)) * (q1.2.1 a2 (Int32.toNatClampNeg x4_67))) else ((q1.2.1 8 (Int32.toNatClampNeg x4_67)) * (q1.2.1 a1 (Int32.toNatClampNeg x4_67))))), (x4_67 + (1 : Int32))))
def p_Ln_boundWithin (a1 : Nat) (a2 : Nat) (M : Mem) : Option (Int32 × Mem) :=
  bnd (itr zfu (fun s => p_Ln_boundWithin_L2 a1 a2 s.1 s.2) ((0 : Int32), M)) fun q1 =>
  bnd (itr zfu (fun s => p_Ln_boundWithin_L34 q1 s.1 s.2) ((0 : Int32), (0 : Int32))) fun q2 =>
  bnd (itr zfu (fun s => p_Ln_boundWithin_L67 a1 a2 q1 s.1 s.2) (q2.1, (0 : Int32))) fun q3 =>
  some (q3.1, q1.2)
-- ExactShares2$Rows.empty([I)V
def p_Rw_empty_L2 (a0 : Nat) (x1_2 : Int32) (M_2 : Mem) : Option ((Int32 × Mem) ⊕ (Int32 × Mem)) :=
  chk (decide (0 < alenC a0)) <|
  if (nI (alenC a0)) ≤ x1_2 then
    some (.inr (x1_2, M_2))
  else
    chk (inb x1_2 (alenC a0)) <|
    nm (wI M_2 a0 x1_2 (0 : Int32)) fun m2_4 =>
    some (.inl ((x1_2 + (1 : Int32)), m2_4))
def p_Rw_empty (a0 : Nat) (M : Mem) : Option (Mem) :=
  bnd (itr zfu (fun s => p_Rw_empty_L2 a0 s.1 s.2) ((0 : Int32), M)) fun q1 =>
  some q1.2
-- ExactShares2$Rows.forget()V
def p_Rw_forget  (M : Mem) : Option (Mem) :=
  bnd (p_Rw_empty 10 M) fun q1 =>
  nm (wF q1 9 2 (0 : Int32)) fun m2 =>
  some m2
-- ExactShares2$Rows.addRow()I
def p_Rw_addRow  (M : Mem) : Option (Int32 × Mem) :=
  if (M.1 9 2) < (5 : Int32) then
    chk (inb (M.1 9 2) 5) <|
    bnd (p_Rw_empty (12 + Int32.toNatClampNeg (M.1 9 2)) M) fun q3 =>
    nm (wF q3 9 2 ((q3.1 9 2) + (1 : Int32))) fun m4 =>
    some (((m4.1 9 2) - (1 : Int32)), m4)
  else
    some ((-4 : Int32), M)
-- ExactShares2$Rows.has(I)Z
def p_Rw_has (a1 : Int32) (M : Mem) : Option (Int32) :=
  if a1 < (-1 : Int32) then
    some (0 : Int32)
  else
    if (M.1 9 2) ≤ a1 then
      some (0 : Int32)
    else
      some (1 : Int32)
-- ExactShares2$Rows.at(I)[I
def p_Rw_at (a1 : Int32) (M : Mem) : Option (Nat) :=
  if a1 < 0 then
    some 10
  else
    if (5 : Int32) ≤ a1 then
      some 10
    else
      chk (inb a1 5) <|
      some (12 + Int32.toNatClampNeg a1)
-- ExactShares2$Rows.count()I
def p_Rw_count  (M : Mem) : Option (Int32) :=
  some (M.1 9 2)
-- ExactShares2$Groups.standAlone()V
def p_Gr_standAlone_L2 (x1_2 : Int32) (M_2 : Mem) : Option ((Int32 × Mem) ⊕ (Int32 × Mem)) :=
  if (6 : Int32) ≤ x1_2 then
    some (.inr (x1_2, M_2))
  else
    chk (inb x1_2 6) <|
    nm (wI M_2 18 x1_2 x1_2) fun m2_3 =>
    some (.inl ((x1_2 + (1 : Int32)), m2_3))
def p_Gr_standAlone  (M : Mem) : Option (Mem) :=
  bnd (itr zfu (fun s => p_Gr_standAlone_L2 s.1 s.2) ((0 : Int32), M)) fun q1 =>
  some q1.2
-- ExactShares2$Groups.move(II)I
def p_Gr_move (a1 : Int32) (a2 : Int32) (M : Mem) : Option (Int32 × Mem) :=
  chk (inb a1 6) <|
  chk (inb a1 6) <|
  nm (wI M 18 a1 a2) fun m3 =>
  some ((M.1 18 (Int32.toNatClampNeg a1)), m3)
-- ExactShares2$Groups.there()I
def p_Gr_there_L4 (M : Mem) (x1_4 : Int32) (x2_4 : Int32) : Option ((Int32 × Int32) ⊕ (Int32 × Int32)) :=
  if (M.1 17 0) ≤ x2_4 then
    some (.inr (x1_4, x2_4))
  else
    chk (inb x2_4 6) <|
    some (.inl ((x1_4 ||| ((1 : Int32) <<< ((M.1 18 (Int32.toNatClampNeg x2_4)) &&& 31))), (x2_4 + (1 : Int32))))
def p_Gr_there  (M : Mem) : Option (Int32) :=
  bnd (itr zfu (fun s => p_Gr_there_L4 M s.1 s.2) ((0 : Int32), (0 : Int32))) fun q1 =>
  some q1.1
-- java/lang/Integer.bitCount(I)I
def p_In_bitCount (a0 : Int32) (M : Mem) : Option (Int32) :=
  some ((((((((a0 - ((zush a0 (1 : Int32)) &&& (1431655765 : Int32))) &&& (858993459 : Int32)) + ((zush (a0 - ((zush a0 (1 : Int32)) &&& (1431655765 : Int32))) (2 : Int32)) &&& (858993459 : Int32))) + (zush (((a0 - ((zush a0 (1 : Int32)) &&& (1431655765 : Int32))) &&& (858993459 : Int32)) + ((zush (a0 - ((zush a0 (1 : Int32)) &&& (1431655765 : Int32))) (2 : Int32)) &&& (858993459 : Int32))) (4 : Int32))) &&& (252645135 : Int32)) + (zush (((((a0 - ((zush a0 (1 : Int32)) &&& (1431655765 : Int32))) &&& (858993459 : Int32)) + ((zush (a0 - ((zush a0 (1 : Int32)) &&& (1431655765 : Int32))) (2 : Int32)) &&& (858993459 : Int32))) + (zush (((a0 - ((zush a0 (1 : Int32)) &&& (1431655765 : Int32))) &&& (858993459 : Int32)) + ((zush (a0 - ((zush a0 (1 : Int32)) &&& (1431655765 : Int32))) (2 : Int32)) &&& (858993459 : Int32))) (4 : Int32))) &&& (252645135 : Int32)) (8 : Int32))) + (zush ((((((a0 - ((zush a0 (1 : Int32)) &&& (1431655765 : Int32))) &&& (858993459 : Int32)) + ((zush (a0 - ((zush a0 (1 : Int32)) &&& (1431655765 : Int32))) (2 : Int32)) &&& (858993459 : Int32))) + (zush (((a0 - ((zush a0 (1 : Int32)) &&& (1431655765 : Int32))) &&& (858993459 : Int32)) + ((zush (a0 - ((zush a0 (1 : Int32)) &&& (1431655765 : Int32))) (2 : Int32)) &&& (858993459 : Int32))) (4 : Int32))) &&& (252645135 : Int32)) + (zush (((((a0 - ((zush a0 (1 : Int32)) &&& (1431655765 : Int32))) &&& (858993459 : Int32)) + ((zush (a0 - ((zush a0 (1 : Int32)) &&& (1431655765 : Int32))) (2 : Int32)) &&& (858993459 : Int32))) + (zush (((a0 - ((zush a0 (1 : Int32)) &&& (1431655765 : Int32))) &&& (858993459 : Int32)) + ((zush (a0 - ((zush a0 (1 : Int32)) &&& (1431655765 : Int32))) (2 : Int32)) &&& (858993459 : Int32))) (4 : Int32))) &&& (252645135 : Int32)) (8 : Int32))) (16 : Int32))) &&& (63 : Int32))
-- ExactShares2$Groups.count()I
def p_Gr_count  (M : Mem) : Option (Int32) :=
  bnd (p_Gr_there  M) fun q1 =>
  bnd (p_In_bitCount q1 M) fun q2 =>
  some q2
-- ExactShares2$Groups.columnsOf(I)I
def p_Gr_columnsOf_L4 (a1 : Int32) (M : Mem) (x2_4 : Int32) (x3_4 : Int32) : Option ((Int32 × Int32) ⊕ (Int32 × Int32)) :=
  if (M.1 17 0) ≤ x3_4 then
    some (.inr (x2_4, x3_4))
  else
    chk (inb x3_4 6) <|
    if ((a1 >>> ((M.1 18 (Int32.toNatClampNeg x3_4)) &&& 31)) &&& (1 : Int32)) = (1 : Int32) then
      some (.inl ((x2_4 ||| ((1 : Int32) <<< (x3_4 &&& 31))), (x3_4 + (1 : Int32))))
    else
      some (.inl (x2_4, (x3_4 + (1 : Int32))))
def p_Gr_columnsOf (a1 : Int32) (M : Mem) : Option (Int32) :=
  bnd (itr zfu (fun s => p_Gr_columnsOf_L4 a1 M s.1 s.2) ((0 : Int32), (0 : Int32))) fun q1 =>
  some q1.1
-- ExactShares2$Groups.ofColumn(I)I
def p_Gr_ofColumn (a1 : Int32) (M : Mem) : Option (Int32) :=
  chk (inb a1 6) <|
  some (M.1 18 (Int32.toNatClampNeg a1))
-- ExactShares2$Orders.start(I)V
def p_Or_start (a1 : Int32) (M : Mem) : Option (Mem) :=
  nm (wF M 22 3 a1) fun m1 =>
  some m1
-- ExactShares2$Orders.lineUp()V
def p_Or_lineUp_L15 (q1 : (Int32)) (x2_15 : Int32) (M_15 : Mem) : Option ((Int32 × Mem) ⊕ (Int32 × Mem)) :=
  if (6 : Int32) ≤ x2_15 then
    some (.inr (x2_15, M_15))
  else
    if ((q1 >>> (x2_15 &&& 31)) &&& (1 : Int32)) = (1 : Int32) then
      chk (inb (M_15.1 22 2) 6) <|
      nm (wI M_15 23 (M_15.1 22 2) x2_15) fun m15_4 =>
      nm (wF m15_4 22 2 ((m15_4.1 22 2) + (1 : Int32))) fun m15_5 =>
      some (.inl ((x2_15 + (1 : Int32)), m15_5))
    else
      some (.inl ((x2_15 + (1 : Int32)), M_15))
def p_Or_lineUp  (M : Mem) : Option (Mem) :=
  bnd (p_Gr_there  M) fun q1 =>
  nm (wF M 22 2 (0 : Int32)) fun m2 =>
  bnd (itr zfu (fun s => p_Or_lineUp_L15 q1 s.1 s.2) ((0 : Int32), m2)) fun q3 =>
  some q3.2
-- ExactShares2$Orders.below(I)I
def p_Or_below (a1 : Int32) (M : Mem) : Option (Int32 × Mem) :=
  nm (wF M 22 3 (((M.1 22 3) * (1103515245 : Int32)) + (12345 : Int32))) fun m1 =>
  if a1 ≤ 0 then
    some ((0 : Int32), m1)
  else
    chk (decide (¬ a1 = 0)) <|
    some (((zush (m1.1 22 3) (16 : Int32)) - (zush (m1.1 22 3) (16 : Int32)) / a1 * a1), m1)
-- ExactShares2$Orders.drawNext()V
def p_Or_drawNext_L11 (x1_11 : Int32) (M_11 : Mem) : Option ((Int32 × Mem) ⊕ (Int32 × Mem)) :=
  if x1_11 < (1 : Int32) then
    some (.inr (x1_11, M_11))
  else
    bnd (p_Or_below (x1_11 + (1 : Int32)) M_11) fun q11_2 =>
    chk (inb x1_11 6) <|
    chk (inb q11_2.1 6) <|
    chk (inb x1_11 6) <|
    nm (wI q11_2.2 23 x1_11 (q11_2.2.1 23 (Int32.toNatClampNeg q11_2.1))) fun m11_6 =>
    chk (inb q11_2.1 6) <|
    nm (wI m11_6 23 q11_2.1 (q11_2.2.1 23 (Int32.toNatClampNeg x1_11))) fun m11_8 =>
    some (.inl ((x1_11 + (-1 : Int32)), m11_8))
def p_Or_drawNext  (M : Mem) : Option (Mem) :=
  bnd (p_Or_lineUp  M) fun q1 =>
  bnd (itr zfu (fun s => p_Or_drawNext_L11 s.1 s.2) (((q1.1 22 2) - (1 : Int32)), q1)) fun q2 =>
  some q2.2
-- ExactShares2$Orders.groupsBefore(I)I
def p_Or_groupsBefore_L4 (a1 : Int32) (M : Mem) (x2_4 : Int32) (x3_4 : Int32) : Option ((Int32 × Int32) ⊕ (Int32 × Int32)) :=
  if (M.1 22 2) ≤ x3_4 then
    some (.inr (x2_4, x3_4))
  else
    chk (inb x3_4 6) <|
    if (M.1 23 (Int32.toNatClampNeg x3_4)) = a1 then
      some (.inr (x2_4, x3_4))
    else
      chk (inb x3_4 6) <|
      some (.inl ((x2_4 ||| ((1 : Int32) <<< ((M.1 23 (Int32.toNatClampNeg x3_4)) &&& 31))), (x3_4 + (1 : Int32))))
def p_Or_groupsBefore (a1 : Int32) (M : Mem) : Option (Int32) :=
  bnd (itr zfu (fun s => p_Or_groupsBefore_L4 a1 M s.1 s.2) ((0 : Int32), (0 : Int32))) fun q1 =>
  some q1.1
-- ExactShares2.factorial(I)J
def p_ES_factorial_L4 (a0 : Int32) (x1_4 : Int64) (x3_4 : Int32) : Option ((Int64 × Int32) ⊕ (Int64 × Int32)) :=
  if a0 < x3_4 then
    some (.inr (x1_4, x3_4))
  else
    some (.inl ((x1_4 * (Int32.toInt64 x3_4)), (x3_4 + (1 : Int32))))
def p_ES_factorial (a0 : Int32) (M : Mem) : Option (Int64) :=
  bnd (itr zfu (fun s => p_ES_factorial_L4 a0 s.1 s.2) ((1 : Int64), (2 : Int32))) fun q1 =>
  some q1.1
-- ExactShares2$Means.ordersAround(II)J
def p_Me_ordersAround (a0 : Int32) (a1 : Int32) (M : Mem) : Option (Int64) :=
  bnd (p_In_bitCount a0 M) fun q1 =>
  bnd (p_ES_factorial q1 M) fun q2 =>
  bnd (p_ES_factorial (a1 - q1) M) fun q3 =>
  some (q2 * q3)
-- ExactShares2$Means.mix(I[I[I)V
def p_Me_mix_L3 (a1 : Int32) (a2 : Nat) (a3 : Nat) (x4_3 : Int32) (M_3 : Mem) : Option ((Int32 × Mem) ⊕ (Int32 × Mem)) :=
  if (6 : Int32) ≤ x4_3 then
    some (.inr (x4_3, M_3))
  else
    if ((a1 >>> (x4_3 &&& 31)) &&& (1 : Int32)) = (1 : Int32) then
      chk (inb x4_3 (alenC a2)) <|
      chk (inb x4_3 6) <|
      nm (wI M_3 20 x4_3 (M_3.1 a2 (Int32.toNatClampNeg x4_3))) fun m3_8 =>
      some (.inl ((x4_3 + (1 : Int32)), m3_8))
    else
      chk (inb x4_3 (alenC a3)) <|
      chk (inb x4_3 6) <|
      nm (wI M_3 20 x4_3 (M_3.1 a3 (Int32.toNatClampNeg x4_3))) fun m3_5 =>
      some (.inl ((x4_3 + (1 : Int32)), m3_5))
def p_Me_mix (a1 : Int32) (a2 : Nat) (a3 : Nat) (M : Mem) : Option (Mem) :=
  bnd (itr zfu (fun s => p_Me_mix_L3 a1 a2 a3 s.1 s.2) ((0 : Int32), M)) fun q1 =>
  some q1.2
-- ExactShares2$Means.total(I)J
def p_Me_total_L5 (a1 : Int32) (x2_5 : Int64) (x4_5 : Int32) (M_5 : Mem) : Option ((Int64 × Int32 × Mem) ⊕ (Int64 × Int32 × Mem)) :=
  bnd (p_Rw_count  M_5) fun q5_1 =>
  if q5_1 ≤ x4_5 then
    some (.inr (x2_5, x4_5, M_5))
  else
    bnd (p_Rw_at (-1 : Int32) M_5) fun q5_3 =>
    bnd (p_Rw_at x4_5 M_5) fun q5_4 =>
    bnd (p_Me_mix a1 q5_3 q5_4 M_5) fun q5_5 =>
    bnd (p_Ln_sumFor 20 q5_5) fun q5_6 =>
    some (.inl ((x2_5 + (Int32.toInt64 q5_6)), (x4_5 + (1 : Int32)), q5_5))
def p_Me_total (a1 : Int32) (M : Mem) : Option (Int64 × Mem) :=
  bnd (itr zfu (fun s => p_Me_total_L5 a1 s.1 s.2.1 s.2.2) ((0 : Int64), (0 : Int32), M)) fun q1 =>
  some (q1.1, q1.2.2)
-- ExactShares2$Means.brought(II)J
def p_Me_brought (a1 : Int32) (a2 : Int32) (M : Mem) : Option (Int64 × Mem) :=
  bnd (p_Me_total (a1 ||| a2) M) fun q1 =>
  bnd (p_Me_total a1 q1.2) fun q2 =>
  some ((q1.1 - q2.1), q2.2)
-- ExactShares2$Means.shareSum(II)J
def p_Me_shareSum_L38 (a1 : Int32) (a2 : Int32) (q1 : (Int32)) (q2 : (Int32)) (q3 : (Int32)) (x6_38 : Int64) (x8_38 : Int32) (M_38 : Mem) : Option ((Int64 × Int32 × Mem) ⊕ (Int64 × Int32 × Mem)) :=
  if (q1 &&& (((1 : Int32) <<< (a1 &&& 31)) ^^^ (-1 : Int32))) < x8_38 then
    some (.inr (x6_38, x8_38, M_38))
  else
    if (x8_38 &&& ((q1 &&& (((1 : Int32) <<< (a1 &&& 31)) ^^^ (-1 : Int32))) ^^^ (-1 : Int32))) = 0 then
      if a2 = (1 : Int32) then
        bnd (p_Gr_columnsOf x8_38 M_38) fun q38_10 =>
        bnd (p_Me_brought q38_10 q2 M_38) fun q38_11 =>
        some (.inl ((x6_38 + ((1 : Int64) * q38_11.1)), (x8_38 + (1 : Int32)), q38_11.2))
      else
        bnd (p_Me_ordersAround x8_38 q3 M_38) fun q38_4 =>
        bnd (p_Gr_columnsOf x8_38 M_38) fun q38_5 =>
        bnd (p_Me_brought q38_5 q2 M_38) fun q38_6 =>
        some (.inl ((x6_38 + (q38_4 * q38_6.1)), (x8_38 + (1 : Int32)), q38_6.2))
    else
      some (.inl (x6_38, (x8_38 + (1 : Int32)), M_38))
def p_Me_shareSum (a1 : Int32) (a2 : Int32) (M : Mem) : Option (Int64 × Mem) :=
  bnd (p_Gr_there  M) fun q1 =>
  bnd (p_Gr_columnsOf ((1 : Int32) <<< (a1 &&& 31)) M) fun q2 =>
  bnd (p_In_bitCount (q1 &&& (((1 : Int32) <<< (a1 &&& 31)) ^^^ (-1 : Int32))) M) fun q3 =>
  bnd (itr zfu (fun s => p_Me_shareSum_L38 a1 a2 q1 q2 q3 s.1 s.2.1 s.2.2) ((0 : Int64), (0 : Int32), M)) fun q4 =>
  some (q4.1, q4.2.2)
-- ExactShares2$Means.measureShares()V
def p_Me_measureShares_L10 (q1 : (Int32)) (x2_10 : Int32) (M_10 : Mem) : Option ((Int32 × Mem) ⊕ (Int32 × Mem)) :=
  if (6 : Int32) ≤ x2_10 then
    some (.inr (x2_10, M_10))
  else
    if ((q1 >>> (x2_10 &&& 31)) &&& (1 : Int32)) = (1 : Int32) then
      bnd (p_Me_shareSum x2_10 (0 : Int32) M_10) fun q10_7 =>
      chk (inb x2_10 6) <|
      nm (wL q10_7.2 21 x2_10 (if 0 < q10_7.1 then q10_7.1 else -q10_7.1)) fun m10_9 =>
      some (.inl ((x2_10 + (1 : Int32)), m10_9))
    else
      chk (inb x2_10 6) <|
      nm (wL M_10 21 x2_10 (0 : Int64)) fun m10_5 =>
      some (.inl ((x2_10 + (1 : Int32)), m10_5))
def p_Me_measureShares  (M : Mem) : Option (Mem) :=
  bnd (p_Gr_there  M) fun q1 =>
  bnd (itr zfu (fun s => p_Me_measureShares_L10 q1 s.1 s.2) ((0 : Int32), M)) fun q2 =>
  some q2.2
-- ExactShares2$Means.countAhead(II)I
def p_Me_countAhead_L5 (a1 : Int32) (a2 : Int32) (M : Mem) (x3_5 : Int32) (x4_5 : Int32) : Option ((Int32 × Int32) ⊕ (Int32 × Int32)) :=
  if (6 : Int32) ≤ x4_5 then
    some (.inr (x3_5, x4_5))
  else
    chk (inb x4_5 6) <|
    chk (inb a1 6) <|
    if (lg_cmp (M.2 21 (Int32.toNatClampNeg x4_5)) (M.2 21 (Int32.toNatClampNeg a1))) = 0 then
      if a1 ≤ x4_5 then
        chk (inb x4_5 6) <|
        chk (inb a1 6) <|
        if 0 < (lg_cmp (M.2 21 (Int32.toNatClampNeg x4_5)) (M.2 21 (Int32.toNatClampNeg a1))) then
          if ((a2 >>> (x4_5 &&& 31)) &&& (1 : Int32)) = (1 : Int32) then
            some (.inl ((x3_5 + (1 : Int32)), (x4_5 + (1 : Int32))))
          else
            some (.inl (x3_5, (x4_5 + (1 : Int32))))
        else
          if ((a2 >>> (x4_5 &&& 31)) &&& (1 : Int32)) = (1 : Int32) then
            some (.inl (x3_5, (x4_5 + (1 : Int32))))
          else
            some (.inl (x3_5, (x4_5 + (1 : Int32))))
      else
        chk (inb x4_5 6) <|
        chk (inb a1 6) <|
        if 0 < (lg_cmp (M.2 21 (Int32.toNatClampNeg x4_5)) (M.2 21 (Int32.toNatClampNeg a1))) then
          if ((a2 >>> (x4_5 &&& 31)) &&& (1 : Int32)) = (1 : Int32) then
            some (.inl ((x3_5 + (1 : Int32)), (x4_5 + (1 : Int32))))
          else
            some (.inl (x3_5, (x4_5 + (1 : Int32))))
        else
          if ((a2 >>> (x4_5 &&& 31)) &&& (1 : Int32)) = (1 : Int32) then
            some (.inl ((x3_5 + (1 : Int32)), (x4_5 + (1 : Int32))))
          else
            some (.inl (x3_5, (x4_5 + (1 : Int32))))
    else
      chk (inb x4_5 6) <|
      chk (inb a1 6) <|
      if 0 < (lg_cmp (M.2 21 (Int32.toNatClampNeg x4_5)) (M.2 21 (Int32.toNatClampNeg a1))) then
        if ((a2 >>> (x4_5 &&& 31)) &&& (1 : Int32)) = (1 : Int32) then
          some (.inl ((x3_5 + (1 : Int32)), (x4_5 + (1 : Int32))))
        else
          some (.inl (x3_5, (x4_5 + (1 : Int32))))
      else
        if ((a2 >>> (x4_5 &&& 31)) &&& (1 : Int32)) = (1 : Int32) then
          some (.inl (x3_5, (x4_5 + (1 : Int32))))
        else
          some (.inl (x3_5, (x4_5 + (1 : Int32))))
def p_Me_countAhead (a1 : Int32) (a2 : Int32) (M : Mem) : Option (Int32) :=
  bnd (itr zfu (fun s => p_Me_countAhead_L5 a1 a2 M s.1 s.2) ((0 : Int32), (0 : Int32))) fun q1 =>
  some q1.1
-- ExactShares2$Means.groupAtPlace(I)I
def p_Me_groupAtPlace_L10 (a1 : Int32) (M : Mem) (q1 : (Int32)) (x3_10 : Int32) : Option ((Int32) ⊕ ((Int32) ⊕ (Int32))) :=
  if (6 : Int32) ≤ x3_10 then
    some (.inr (.inl (x3_10)))
  else
    if ((q1 >>> (x3_10 &&& 31)) &&& (1 : Int32)) = (1 : Int32) then
      bnd (p_Me_countAhead x3_10 q1 M) fun q10_3 =>
      if q10_3 = a1 then
        some (.inr (.inr x3_10))
      else
        some (.inl ((x3_10 + (1 : Int32))))
    else
      some (.inl ((x3_10 + (1 : Int32))))
def p_Me_groupAtPlace (a1 : Int32) (M : Mem) : Option (Int32) :=
  bnd (p_Gr_there  M) fun q1 =>
  bnd (itr zfu (fun s => p_Me_groupAtPlace_L10 a1 M q1 s) ((0 : Int32))) fun e => match e with
    | .inr r => some r
    | .inl q2 =>
      some (-1 : Int32)
-- ExactShares2$Means.shareWays(I)J
def p_Me_shareWays (a1 : Int32) (M : Mem) : Option (Int64) :=
  bnd (p_Gr_count  M) fun q1 =>
  if a1 = (1 : Int32) then
    some (zlsh (1 : Int64) (q1 - (1 : Int32)))
  else
    bnd (p_ES_factorial q1 M) fun q3 =>
    some q3
-- ExactShares2$Means.togetherSum(II)J
def p_Me_togetherSum_L56 (a1 : Int32) (a2 : Int32) (q1 : (Int32)) (q2 : (Int32)) (q3 : (Int32)) (q4 : (Int32)) (x7_56 : Int64) (x9_56 : Int32) (M_56 : Mem) : Option ((Int64 × Int32 × Mem) ⊕ (Int64 × Int32 × Mem)) :=
  if ((q1 &&& (((1 : Int32) <<< (a1 &&& 31)) ^^^ (-1 : Int32))) &&& (((1 : Int32) <<< (a2 &&& 31)) ^^^ (-1 : Int32))) < x9_56 then
    some (.inr (x7_56, x9_56, M_56))
  else
    if (x9_56 &&& (((q1 &&& (((1 : Int32) <<< (a1 &&& 31)) ^^^ (-1 : Int32))) &&& (((1 : Int32) <<< (a2 &&& 31)) ^^^ (-1 : Int32))) ^^^ (-1 : Int32))) = 0 then
      bnd (p_Gr_columnsOf x9_56 M_56) fun q56_3 =>
      bnd (p_Me_brought (q56_3 ||| q3) q2 M_56) fun q56_4 =>
      bnd (p_Me_brought q56_3 q2 q56_4.2) fun q56_5 =>
      bnd (p_Me_ordersAround x9_56 q4 q56_5.2) fun q56_6 =>
      some (.inl ((x7_56 + (q56_6 * (q56_4.1 - q56_5.1))), (x9_56 + (1 : Int32)), q56_5.2))
    else
      some (.inl (x7_56, (x9_56 + (1 : Int32)), M_56))
def p_Me_togetherSum (a1 : Int32) (a2 : Int32) (M : Mem) : Option (Int64 × Mem) :=
  bnd (p_Gr_there  M) fun q1 =>
  bnd (p_Gr_columnsOf ((1 : Int32) <<< (a1 &&& 31)) M) fun q2 =>
  bnd (p_Gr_columnsOf ((1 : Int32) <<< (a2 &&& 31)) M) fun q3 =>
  bnd (p_In_bitCount ((q1 &&& (((1 : Int32) <<< (a1 &&& 31)) ^^^ (-1 : Int32))) &&& (((1 : Int32) <<< (a2 &&& 31)) ^^^ (-1 : Int32))) M) fun q4 =>
  bnd (itr zfu (fun s => p_Me_togetherSum_L56 a1 a2 q1 q2 q3 q4 s.1 s.2.1 s.2.2) ((0 : Int64), (0 : Int32), M)) fun q5 =>
  some (q5.1, q5.2.2)
-- ExactShares2$Means.togetherWays()J
def p_Me_togetherWays  (M : Mem) : Option (Int64) :=
  bnd (p_Gr_count  M) fun q1 =>
  bnd (p_ES_factorial (q1 - (1 : Int32)) M) fun q2 =>
  some q2
-- ExactShares2$Means.drawnSum(III)J
def p_Me_drawnSum_L26 (a1 : Int32) (a3 : Int32) (q1 : (Int32)) (x5_26 : Int64) (x7_26 : Int32) (M_26 : Mem) : Option ((Int64 × Int32 × Mem) ⊕ (Int64 × Int32 × Mem)) :=
  if a3 ≤ x7_26 then
    some (.inr (x5_26, x7_26, M_26))
  else
    bnd (p_Or_drawNext  M_26) fun q26_2 =>
    bnd (p_Or_groupsBefore a1 q26_2) fun q26_3 =>
    bnd (p_Gr_columnsOf q26_3 q26_2) fun q26_4 =>
    bnd (p_Me_brought q26_4 q1 q26_2) fun q26_5 =>
    some (.inl ((x5_26 + q26_5.1), (x7_26 + (1 : Int32)), q26_5.2))
def p_Me_drawnSum (a1 : Int32) (a2 : Int32) (a3 : Int32) (M : Mem) : Option (Int64 × Mem) :=
  bnd (p_Gr_columnsOf ((1 : Int32) <<< (a1 &&& 31)) M) fun q1 =>
  bnd (p_Or_start a2 M) fun q2 =>
  bnd (itr zfu (fun s => p_Me_drawnSum_L26 a1 a3 q1 s.1 s.2.1 s.2.2) ((0 : Int64), (0 : Int32), q2)) fun q3 =>
  some (q3.1, q3.2.2)
-- ExactShares2$Means.sumWith([III)J
def p_Me_sumWith_L3 (a1 : Nat) (a2 : Int32) (a3 : Int32) (x4_3 : Int32) (M_3 : Mem) : Option ((Int32 × Mem) ⊕ (Int32 × Mem)) :=
  if (6 : Int32) ≤ x4_3 then
    some (.inr (x4_3, M_3))
  else
    if x4_3 = a2 then
      chk (inb x4_3 6) <|
      nm (wI M_3 20 x4_3 a3) fun m3_7 =>
      some (.inl ((x4_3 + (1 : Int32)), m3_7))
    else
      chk (inb x4_3 (alenC a1)) <|
      chk (inb x4_3 6) <|
      nm (wI M_3 20 x4_3 (M_3.1 a1 (Int32.toNatClampNeg x4_3))) fun m3_5 =>
      some (.inl ((x4_3 + (1 : Int32)), m3_5))
def p_Me_sumWith (a1 : Nat) (a2 : Int32) (a3 : Int32) (M : Mem) : Option (Int64 × Mem) :=
  bnd (itr zfu (fun s => p_Me_sumWith_L3 a1 a2 a3 s.1 s.2) ((0 : Int32), M)) fun q1 =>
  bnd (p_Ln_sumFor 20 q1.2) fun q2 =>
  some ((Int32.toInt64 q2), q1.2)
-- ExactShares2$Means.replacedSum(II)J
def p_Me_replacedSum_L5 (a1 : Int32) (a2 : Int32) (x3_5 : Int64) (x5_5 : Int32) (M_5 : Mem) : Option ((Int64 × Int32 × Mem) ⊕ (Int64 × Int32 × Mem)) :=
  bnd (p_Rw_count  M_5) fun q5_1 =>
  if q5_1 ≤ x5_5 then
    some (.inr (x3_5, x5_5, M_5))
  else
    bnd (p_Rw_at x5_5 M_5) fun q5_3 =>
    bnd (p_Me_sumWith q5_3 a1 a2 M_5) fun q5_4 =>
    some (.inl ((x3_5 + q5_4.1), (x5_5 + (1 : Int32)), q5_4.2))
def p_Me_replacedSum (a1 : Int32) (a2 : Int32) (M : Mem) : Option (Int64 × Mem) :=
  bnd (itr zfu (fun s => p_Me_replacedSum_L5 a1 a2 s.1 s.2.1 s.2.2) ((0 : Int64), (0 : Int32), M)) fun q1 =>
  some (q1.1, q1.2.2)
-- ExactShares2$Means.changeSum(I)J
def p_Me_changeSum_L43 (a1 : Int32) (q5_3 : (Nat)) (q5_4 : (Int32)) (x2_43 : Int64) (x8_43 : Int32) (M_43 : Mem) : Option ((Int64 × Int32 × Mem) ⊕ (Int64 × Int32 × Mem)) :=
  bnd (p_Rw_count  M_43) fun q43_1 =>
  if q43_1 ≤ x8_43 then
    some (.inr (x2_43, x8_43, M_43))
  else
    bnd (p_Rw_at x8_43 M_43) fun q43_3 =>
    chk (inb a1 (alenC q43_3)) <|
    bnd (p_Me_sumWith q5_3 a1 (M_43.1 q43_3 (Int32.toNatClampNeg a1)) M_43) fun q43_5 =>
    some (.inl ((x2_43 + ((q43_5.1 - (Int32.toInt64 q5_4)) * (q43_5.1 - (Int32.toInt64 q5_4)))), (x8_43 + (1 : Int32)), q43_5.2))
def p_Me_changeSum_L5 (a1 : Int32) (x2_5 : Int64) (x4_5 : Int32) (M_5 : Mem) : Option ((Int64 × Int32 × Mem) ⊕ (Int64 × Int32 × Mem)) :=
  bnd (p_Rw_count  M_5) fun q5_1 =>
  if q5_1 ≤ x4_5 then
    some (.inr (x2_5, x4_5, M_5))
  else
    bnd (p_Rw_at x4_5 M_5) fun q5_3 =>
    bnd (p_Ln_sumFor q5_3 M_5) fun q5_4 =>
    bnd (itr zfu (fun s => p_Me_changeSum_L43 a1 q5_3 q5_4 s.1 s.2.1 s.2.2) (x2_5, (0 : Int32), M_5)) fun q5_5 =>
    some (.inl (q5_5.1, (x4_5 + (1 : Int32)), q5_5.2.2))
def p_Me_changeSum (a1 : Int32) (M : Mem) : Option (Int64 × Mem) :=
  bnd (itr zfu (fun s => p_Me_changeSum_L5 a1 s.1 s.2.1 s.2.2) ((0 : Int64), (0 : Int32), M)) fun q1 =>
  some (q1.1, q1.2.2)
-- ExactShares2$Search.unbarAll()V
def p_Se_unbarAll_L2 (x1_2 : Int32) (M_2 : Mem) : Option ((Int32 × Mem) ⊕ (Int32 × Mem)) :=
  if (6 : Int32) ≤ x1_2 then
    some (.inr (x1_2, M_2))
  else
    chk (inb x1_2 6) <|
    nm (wI M_2 25 x1_2 (vp_nar .boolean (0 : Int32))) fun m2_3 =>
    some (.inl ((x1_2 + (1 : Int32)), m2_3))
def p_Se_unbarAll  (M : Mem) : Option (Mem) :=
  bnd (itr zfu (fun s => p_Se_unbarAll_L2 s.1 s.2) ((0 : Int32), M)) fun q1 =>
  some q1.2
-- ExactShares2$Search.setBarred(IZ)Z
def p_Se_setBarred (a1 : Int32) (a2 : Int32) (M : Mem) : Option (Int32 × Mem) :=
  chk (inb a1 6) <|
  chk (inb a1 6) <|
  nm (wI M 25 a1 (vp_nar .boolean a2)) fun m3 =>
  chk (zbl (M.1 25 (Int32.toNatClampNeg a1))) <|
  some ((M.1 25 (Int32.toNatClampNeg a1)), m3)
-- ExactShares2$Search.addChoice(II)V
def p_Se_addChoice_L18 (a1 : Int32) (a2 : Int32) (M : Mem) (x5_18 : Int32) : Option ((Int32) ⊕ (Int32)) :=
  if (M.1 33 (Int32.toNatClampNeg a1)) ≤ x5_18 then
    some (.inr (x5_18))
  else
    chk (inb x5_18 (alenC (27 + Int32.toNatClampNeg a1))) <|
    if a2 ≤ (M.1 (27 + Int32.toNatClampNeg a1) (Int32.toNatClampNeg x5_18)) then
      some (.inr (x5_18))
    else
      some (.inl ((x5_18 + (1 : Int32))))
def p_Se_addChoice_L78 (a1 : Int32) (q3 : (Int32)) (x7_78 : Int32) (M_78 : Mem) : Option ((Int32 × Mem) ⊕ (Int32 × Mem)) :=
  if x7_78 ≤ q3 then
    some (.inr (x7_78, M_78))
  else
    chk (inb (x7_78 - (1 : Int32)) (alenC (27 + Int32.toNatClampNeg a1))) <|
    chk (inb x7_78 (alenC (27 + Int32.toNatClampNeg a1))) <|
    nm (wI M_78 (27 + Int32.toNatClampNeg a1) x7_78 (M_78.1 (27 + Int32.toNatClampNeg a1) (Int32.toNatClampNeg (x7_78 - (1 : Int32))))) fun m78_4 =>
    some (.inl ((x7_78 + (-1 : Int32)), m78_4))
def p_Se_addChoice (a1 : Int32) (a2 : Int32) (M : Mem) : Option (Mem) :=
  chk (inb a1 6) <|
  chk (inb a1 6) <|
  bnd (itr zfu (fun s => p_Se_addChoice_L18 a1 a2 M s) ((0 : Int32))) fun q3 =>
  if (M.1 33 (Int32.toNatClampNeg a1)) ≤ q3 then
    chk (decide (0 < alenC (27 + Int32.toNatClampNeg a1))) <|
    if (M.1 33 (Int32.toNatClampNeg a1)) < (nI (alenC (27 + Int32.toNatClampNeg a1))) then
      bnd (itr zfu (fun s => p_Se_addChoice_L78 a1 q3 s.1 s.2) ((M.1 33 (Int32.toNatClampNeg a1)), M)) fun q8 =>
      chk (inb q3 (alenC (27 + Int32.toNatClampNeg a1))) <|
      nm (wI q8.2 (27 + Int32.toNatClampNeg a1) q3 a2) fun m10 =>
      chk (inb a1 6) <|
      nm (wI m10 33 a1 ((M.1 33 (Int32.toNatClampNeg a1)) + (1 : Int32))) fun m12 =>
      some m12
    else
      some M
  else
    chk (inb q3 (alenC (27 + Int32.toNatClampNeg a1))) <|
    if (M.1 (27 + Int32.toNatClampNeg a1) (Int32.toNatClampNeg q3)) = a2 then
      some M
    else
      chk (decide (0 < alenC (27 + Int32.toNatClampNeg a1))) <|
      if (M.1 33 (Int32.toNatClampNeg a1)) < (nI (alenC (27 + Int32.toNatClampNeg a1))) then
        bnd (itr zfu (fun s => p_Se_addChoice_L78 a1 q3 s.1 s.2) ((M.1 33 (Int32.toNatClampNeg a1)), M)) fun q18 =>
        chk (inb q3 (alenC (27 + Int32.toNatClampNeg a1))) <|
        nm (wI q18.2 (27 + Int32.toNatClampNeg a1) q3 a2) fun m20 =>
        chk (inb a1 6) <|
        nm (wI m20 33 a1 ((M.1 33 (Int32.toNatClampNeg a1)) + (1 : Int32))) fun m22 =>
        some m22
      else
        some M
-- ExactShares2$Search.gatherChoices(I)V
def p_Se_gatherChoices_L34 (a1 : Int32) (x2_34 : Int32) (M_34 : Mem) : Option ((Int32 × Mem) ⊕ (Int32 × Mem)) :=
  bnd (p_Rw_count  M_34) fun q34_1 =>
  if q34_1 ≤ x2_34 then
    some (.inr (x2_34, M_34))
  else
    bnd (p_Rw_at x2_34 M_34) fun q34_3 =>
    chk (inb a1 (alenC q34_3)) <|
    bnd (p_Se_addChoice a1 (M_34.1 q34_3 (Int32.toNatClampNeg a1)) M_34) fun q34_5 =>
    some (.inl ((x2_34 + (1 : Int32)), q34_5))
def p_Se_gatherChoices (a1 : Int32) (M : Mem) : Option (Mem) :=
  chk (inb a1 6) <|
  nm (wI M 33 a1 (0 : Int32)) fun m2 =>
  bnd (p_Rw_at (-1 : Int32) m2) fun q3 =>
  chk (inb a1 (alenC q3)) <|
  bnd (p_Se_addChoice a1 (m2.1 q3 (Int32.toNatClampNeg a1)) m2) fun q5 =>
  chk (inb a1 6) <|
  if (q5.1 25 (Int32.toNatClampNeg a1)) = 0 then
    bnd (itr zfu (fun s => p_Se_gatherChoices_L34 a1 s.1 s.2) ((0 : Int32), q5)) fun q8 =>
    some q8.2
  else
    some q5
-- ExactShares2$Search.open(I)V
def p_Se_open (a1 : Int32) (M : Mem) : Option (Mem) :=
  chk (inb a1 6) <|
  chk (inb (0 : Int32) (alenC (27 + Int32.toNatClampNeg a1))) <|
  chk (inb a1 6) <|
  nm (wI M 34 a1 (M.1 (27 + Int32.toNatClampNeg a1) (Int32.toNatClampNeg (0 : Int32)))) fun m4 =>
  chk (inb a1 6) <|
  chk (inb a1 6) <|
  chk (inb ((m4.1 33 (Int32.toNatClampNeg a1)) - (1 : Int32)) (alenC (27 + Int32.toNatClampNeg a1))) <|
  chk (inb a1 6) <|
  nm (wI m4 35 a1 (m4.1 (27 + Int32.toNatClampNeg a1) (Int32.toNatClampNeg ((m4.1 33 (Int32.toNatClampNeg a1)) - (1 : Int32))))) fun m9 =>
  some m9
-- ExactShares2$Search.costOf(II)I
def p_Se_costOf (a1 : Int32) (a2 : Int32) (M : Mem) : Option (Int32) :=
  bnd (p_Rw_at (-1 : Int32) M) fun q1 =>
  chk (inb a1 (alenC q1)) <|
  if (if 0 ≤ (a2 - (M.1 q1 (Int32.toNatClampNeg a1))) then (a2 - (M.1 q1 (Int32.toNatClampNeg a1))) else 0 - (a2 - (M.1 q1 (Int32.toNatClampNeg a1)))) = 0 then
    some (0 : Int32)
  else
    some ((10000 : Int32) + (if 0 ≤ (a2 - (M.1 q1 (Int32.toNatClampNeg a1))) then (a2 - (M.1 q1 (Int32.toNatClampNeg a1))) else 0 - (a2 - (M.1 q1 (Int32.toNatClampNeg a1)))))
-- ExactShares2$Search.keep(I)V
def p_Se_keep_L7 (x2_7 : Int32) (M_7 : Mem) : Option ((Int32 × Mem) ⊕ (Int32 × Mem)) :=
  if (M_7.1 24 0) ≤ x2_7 then
    some (.inr (x2_7, M_7))
  else
    chk (inb x2_7 6) <|
    chk (inb x2_7 6) <|
    nm (wI M_7 36 x2_7 (M_7.1 34 (Int32.toNatClampNeg x2_7))) fun m7_4 =>
    some (.inl ((x2_7 + (1 : Int32)), m7_4))
def p_Se_keep (a1 : Int32) (M : Mem) : Option (Mem) :=
  nm (wF M 24 9 a1) fun m1 =>
  bnd (itr zfu (fun s => p_Se_keep_L7 s.1 s.2) ((0 : Int32), m1)) fun q2 =>
  some q2.2
-- ExactShares2$Search.differing()I
def p_Se_differing  (M : Mem) : Option (Int32) :=
  chk (decide (¬ (10000 : Int32) = 0)) <|
  some ((M.1 24 9) / (10000 : Int32))
-- ExactShares2$Search.foundIn(I)I
def p_Se_foundIn (a1 : Int32) (M : Mem) : Option (Int32) :=
  chk (inb a1 6) <|
  some (M.1 36 (Int32.toNatClampNeg a1))
-- ExactShares2.isWithin(II)Z
def p_ES_isWithin (a0 : Int32) (a1 : Int32) (M : Mem) : Option (Int32) :=
  if a0 < (-a1) then
    some (0 : Int32)
  else
    if a1 < a0 then
      some (0 : Int32)
    else
      some (1 : Int32)
-- ExactShares2.leaf(I)I
def p_ES_leaf (a1 : Int32) (M : Mem) : Option (Int32 × Mem) :=
  bnd (p_ES_isWithin a1 (1000 : Int32) M) fun q1 =>
  if q1 = 0 then
    some ((-2 : Int32), M)
  else
    bnd (p_Ln_addLeaf a1 M) fun q3 =>
    some (q3.1, q3.2)
-- ExactShares2.isColumn(I)Z
def p_ES_isColumn (a1 : Int32) (M : Mem) : Option (Int32) :=
  if a1 < 0 then
    some (0 : Int32)
  else
    if (M.1 0 0) ≤ a1 then
      some (0 : Int32)
    else
      some (1 : Int32)
-- ExactShares2.split(IIII)I
def p_ES_split (a1 : Int32) (a2 : Int32) (a3 : Int32) (a4 : Int32) (M : Mem) : Option (Int32 × Mem) :=
  bnd (p_ES_isColumn a1 M) fun q1 =>
  if q1 = 0 then
    some ((-1 : Int32), M)
  else
    bnd (p_Ln_hasNode a3 M) fun q3 =>
    if q3 = 0 then
      some ((-1 : Int32), M)
    else
      bnd (p_Ln_hasNode a4 M) fun q5 =>
      if q5 = 0 then
        some ((-1 : Int32), M)
      else
        bnd (p_ES_isWithin a2 (100 : Int32) M) fun q7 =>
        if q7 = 0 then
          some ((-2 : Int32), M)
        else
          bnd (p_Ln_addSplit a1 a2 a3 a4 M) fun q9 =>
          some (q9.1, q9.2)
-- ExactShares2.root(I)I
def p_ES_root (a1 : Int32) (M : Mem) : Option (Int32 × Mem) :=
  bnd (p_Ln_hasNode a1 M) fun q1 =>
  if q1 = 0 then
    some ((-1 : Int32), M)
  else
    bnd (p_Ln_addRoot a1 M) fun q3 =>
    some (q3.1, q3.2)
-- ExactShares2.weight(II)I
def p_ES_weight (a1 : Int32) (a2 : Int32) (M : Mem) : Option (Int32 × Mem) :=
  bnd (p_ES_isColumn a1 M) fun q1 =>
  if q1 = 0 then
    some ((-1 : Int32), M)
  else
    bnd (p_ES_isWithin a2 (20 : Int32) M) fun q3 =>
    if q3 = 0 then
      some ((-2 : Int32), M)
    else
      bnd (p_Ln_weigh a1 a2 M) fun q5 =>
      some ((1 : Int32), q5)
-- ExactShares2.clear()I
def p_ES_clear  (M : Mem) : Option (Int32 × Mem) :=
  bnd (p_Ln_forget  M) fun q1 =>
  bnd (p_Rw_forget  q1.2) fun q2 =>
  bnd (p_Gr_standAlone  q2) fun q3 =>
  bnd (p_Se_unbarAll  q3) fun q4 =>
  some (q1.1, q4)
-- ExactShares2.background()I
def p_ES_background  (M : Mem) : Option (Int32 × Mem) :=
  bnd (p_Rw_addRow  M) fun q1 =>
  some (q1.1, q1.2)
-- ExactShares2.item(III)I
def p_ES_item (a1 : Int32) (a2 : Int32) (a3 : Int32) (M : Mem) : Option (Int32 × Mem) :=
  bnd (p_Rw_has a1 M) fun q1 =>
  if q1 = 0 then
    some ((-1 : Int32), M)
  else
    bnd (p_ES_isColumn a2 M) fun q3 =>
    if q3 = 0 then
      some ((-1 : Int32), M)
    else
      bnd (p_ES_isWithin a3 (100 : Int32) M) fun q5 =>
      if q5 = 0 then
        some ((-2 : Int32), M)
      else
        bnd (p_Rw_at a1 M) fun q7 =>
        chk (inb a2 (alenC q7)) <|
        nm (wI M q7 a2 a3) fun m9 =>
        some ((1 : Int32), m9)
-- ExactShares2.group(II)I
def p_ES_group (a1 : Int32) (a2 : Int32) (M : Mem) : Option (Int32 × Mem) :=
  bnd (p_ES_isColumn a1 M) fun q1 =>
  if q1 = 0 then
    some ((-1 : Int32), M)
  else
    bnd (p_ES_isColumn a2 M) fun q3 =>
    if q3 = 0 then
      some ((-2 : Int32), M)
    else
      bnd (p_Gr_move a1 a2 M) fun q5 =>
      some (q5.1, q5.2)
-- ExactShares2.answer(I)J
def p_ES_answer (a1 : Int32) (M : Mem) : Option (Int64) :=
  bnd (p_Rw_has a1 M) fun q1 =>
  if q1 = 0 then
    some (-1000000000000 : Int64)
  else
    bnd (p_Rw_at a1 M) fun q3 =>
    bnd (p_Ln_sumFor q3 M) fun q4 =>
    some (Int32.toInt64 q4)
-- ExactShares2.rank(I)I
def p_ES_rank (a1 : Int32) (M : Mem) : Option (Int32 × Mem) :=
  if a1 < 0 then
    some ((-1 : Int32), M)
  else
    bnd (p_Gr_count  M) fun q2 =>
    if a1 < q2 then
      bnd (p_Rw_count  M) fun q4 =>
      if q4 = 0 then
        some ((-3 : Int32), M)
      else
        bnd (p_Me_measureShares  M) fun q6 =>
        bnd (p_Me_groupAtPlace a1 q6) fun q7 =>
        some (q7, q6)
    else
      some ((-1 : Int32), M)
-- ExactShares2.bar(IZ)I
def p_ES_bar (a1 : Int32) (a2 : Int32) (M : Mem) : Option (Int32 × Mem) :=
  bnd (p_ES_isColumn a1 M) fun q1 =>
  if q1 = 0 then
    some ((-1 : Int32), M)
  else
    bnd (p_Se_setBarred a1 a2 M) fun q3 =>
    if q3.1 = 0 then
      some ((0 : Int32), q3.2)
    else
      some ((1 : Int32), q3.2)
-- ExactShares2.isPart(I)Z
def p_ES_isPart (a0 : Int32) (M : Mem) : Option (Int32) :=
  if a0 = 0 then
    some (1 : Int32)
  else
    if a0 = (1 : Int32) then
      some (1 : Int32)
    else
      some (0 : Int32)
-- ExactShares2.commonDivisor(JJ)J
def p_ES_commonDivisor_L9 (x4_9 : Int64) (x6_9 : Int64) (x8_9 : Int32) : Option ((Int64 × Int64 × Int32) ⊕ (Int64 × Int64 × Int32)) :=
  if (100 : Int32) ≤ x8_9 then
    some (.inr (x4_9, x6_9, x8_9))
  else
    if (lg_cmp x6_9 (0 : Int64)) = 0 then
      some (.inr (x4_9, x6_9, x8_9))
    else
      chk (decide (¬ x6_9 = 0)) <|
      some (.inl (x6_9, (x4_9 - x4_9 / x6_9 * x6_9), (x8_9 + (1 : Int32))))
def p_ES_commonDivisor (a0 : Int64) (a2 : Int64) (M : Mem) : Option (Int64) :=
  bnd (itr zfu (fun s => p_ES_commonDivisor_L9 s.1 s.2.1 s.2.2) (a0, a2, (0 : Int32))) fun q1 =>
  some q1.1
-- ExactShares2.isManner(I)Z
def p_ES_isManner (a0 : Int32) (M : Mem) : Option (Int32) :=
  if a0 = 0 then
    some (1 : Int32)
  else
    if a0 = (1 : Int32) then
      some (1 : Int32)
    else
      some (0 : Int32)
