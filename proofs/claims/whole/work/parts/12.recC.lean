def p_Se_visit (rc : Int32 → Int32 → Mem → Option Mem) (a1 : Int32) (a2 : Int32) (M : Mem) : Option (Mem) :=
  if (M.1 24 9) ≤ a2 then
    some M
  else
    bnd (p_Ln_boundWithin 34 35 M) fun q2 =>
    if (q2.2.1 24 10) ≤ q2.1 then
      if (q2.2.1 24 0) ≤ a1 then
        bnd (p_Se_keep a2 q2.2) fun q5 =>
        some q5
      else
        bnd (rc a1 a2 q2.2) fun q7 =>
        some q7
    else
      some q2.2
def p_Se_settle_L2 (rc : Int32 → Int32 → Mem → Option Mem) (a1 : Int32) (a2 : Int32) (x3_2 : Int32) (M_2 : Mem) : Option ((Int32 × Mem) ⊕ (Int32 × Mem)) :=
  chk (inb a1 6) <|
  if (M_2.1 33 (Int32.toNatClampNeg a1)) ≤ x3_2 then
    some (.inr (x3_2, M_2))
  else
    chk (inb a1 6) <|
    chk (inb x3_2 (alenC (27 + Int32.toNatClampNeg a1))) <|
    chk (inb a1 6) <|
    nm (wI M_2 34 a1 (M_2.1 (27 + Int32.toNatClampNeg a1) (Int32.toNatClampNeg x3_2))) fun m2_6 =>
    chk (inb a1 6) <|
    nm (wI m2_6 35 a1 (M_2.1 (27 + Int32.toNatClampNeg a1) (Int32.toNatClampNeg x3_2))) fun m2_8 =>
    bnd (p_Se_costOf a1 (M_2.1 (27 + Int32.toNatClampNeg a1) (Int32.toNatClampNeg x3_2)) m2_8) fun q2_9 =>
    bnd (rc (a1 + (1 : Int32)) (a2 + q2_9) m2_8) fun q2_10 =>
    some (.inl ((x3_2 + (1 : Int32)), q2_10))
def p_Se_settle (rc : Int32 → Int32 → Mem → Option Mem) (a1 : Int32) (a2 : Int32) (M : Mem) : Option (Mem) :=
  bnd (itr zfu (fun s => p_Se_settle_L2 rc a1 a2 s.1 s.2) ((0 : Int32), M)) fun q1 =>
  bnd (p_Se_open a1 q1.2) fun q2 =>
  some q2
def p_Se_vs : Nat → Bool → Int32 → Int32 → Mem → Option Mem
  | 0, _, _, _, _ => none
  | d + 1, true, a1, a2, M => p_Se_visit (p_Se_vs d false) a1 a2 M
  | d + 1, false, a1, a2, M => p_Se_settle (p_Se_vs d true) a1 a2 M
def p_Se_find_L13 (x2_13 : Int32) (M_13 : Mem) : Option ((Int32 × Mem) ⊕ (Int32 × Mem)) :=
  if (M_13.1 24 0) ≤ x2_13 then
    some (.inr (x2_13, M_13))
  else
    bnd (p_Se_gatherChoices x2_13 M_13) fun q13_2 =>
    bnd (p_Se_open x2_13 q13_2) fun q13_3 =>
    some (.inl ((x2_13 + (1 : Int32)), q13_3))
def p_Se_find (a1 : Int32) (M : Mem) : Option (Int32 × Mem) :=
  nm (wF M 24 10 a1) fun m1 =>
  nm (wF m1 24 9 (1000000 : Int32)) fun m2 =>
  bnd (itr zfu (fun s => p_Se_find_L13 s.1 s.2) ((0 : Int32), m2)) fun q3 =>
  bnd (p_Se_vs 14 true (0 : Int32) (0 : Int32) q3.2) fun q4 =>
  if (1000000 : Int32) ≤ (q4.1 24 9) then
    some ((0 : Int32), q4)
  else
    some ((1 : Int32), q4)
def p_ES_nearest (a1 : Int32) (M : Mem) : Option (Int32 × Mem) :=
  bnd (p_Se_find a1 M) fun q1 =>
  if q1.1 = 0 then
    some ((-3 : Int32), q1.2)
  else
    bnd (p_Se_differing  q1.2) fun q3 =>
    some (q3, q1.2)
def p_ES_nearestAt (a1 : Int32) (a2 : Int32) (M : Mem) : Option (Int64 × Mem) :=
  bnd (p_ES_isColumn a2 M) fun q1 =>
  if q1 = 0 then
    some ((-1000000000000 : Int64), M)
  else
    bnd (p_Se_find a1 M) fun q3 =>
    if q3.1 = 0 then
      some ((-1000000000000 : Int64), q3.2)
    else
      bnd (p_Se_foundIn a2 q3.2) fun q5 =>
      some ((Int32.toInt64 q5), q3.2)
abbrev rm_Se_vs (d : Nat) : Room := { frames := d + 4, cells := 0, slots := 0, locals := 24 * d + 200 }
set_option maxHeartbeats 4000000 in
set_option maxRecDepth 100000 in
theorem c_Se_visit_open (l : Launch) (G : zG) (d : Nat) (rc : Int32 → Int32 → Mem → Option Mem) (hrc : ∀ (a1 a2 : Int32) (M r : Mem), rc a1 a2 M = some r → MetZC l G y_Se_settle (Cond.code y_Se_settle b_Se_settle 5 none :: zws) (rm_Se_vs d) [.ref (G.1 24), .int a1, .int a2] M none r) (a1 a2 : Int32) (M : Mem) (r : Mem) (h : p_Se_visit rc a1 a2 M = some r) : MetZC l G y_Se_visit (Cond.code y_Se_visit b_Se_visit 3 none :: zws) (rm_Se_vs (d + 1)) [.ref (G.1 24), .int a1, .int a2] M none r := by
  unfold p_Se_visit at h
  refine z_ofWC (lv := [(0, .ref (G.1 24)), (1, .int a1), (2, .int a2)]) (by decide) (Nat.le_of_ble_eq_true rfl) rfl (fun p e R s m args below meth c Q ls F hl hZ => ?_)
  obtain ⟨hx0, hb, hml, hr, hts, hown, hlocks, rfl, hQ⟩ := F
  refine lv_iload_n hx0 hb d_Se_visit_0 rfl (lv_at hl 2 rfl) ?_
  refine lv_aload_n hx0 hb d_Se_visit_1 rfl (lv_at hl 0 rfl) ?_
  refine fg_Se_bestCost hx0 hb hts hown hZ d_Se_visit_2 ?_
  refine lv_icmp_ge (tgt := 30) hx0 hb d_Se_visit_5 (by decide) (fun c1 => ?_) (fun c1 => ?_)
  · replace h := (if_pos c1).symm.trans h
    obtain rfl := Option.some.inj h
    exact z_vretC hx0 hb hr hZ hlocks hQ d_Se_visit_30
  · replace h := (if_neg c1).symm.trans h
    refine lv_aload_n hx0 hb d_Se_visit_8 rfl (lv_at hl 0 rfl) ?_
    refine fg_Se_learner hx0 hb hts hown hZ d_Se_visit_9 ?_
    refine lv_aload_n hx0 hb d_Se_visit_12 rfl (lv_at hl 0 rfl) ?_
    refine fg_Se_least hx0 hb hts hown hZ d_Se_visit_13 ?_
    refine lv_aload_n hx0 hb d_Se_visit_16 rfl (lv_at hl 0 rfl) ?_
    refine fg_Se_most hx0 hb hts hown hZ d_Se_visit_17 ?_
    obtain ⟨q2, hc9, h⟩ := bnd_some h
    refine k_Se_Ln_boundWithin [.ref (G.1 34), .ref (G.1 35)] hx0 hb hml hts hown (c_Ln_boundWithin l G 34 35 M q2 hc9) hZ rfl rfl (by refine ⟨?_, ?_⟩ <;> (dsimp only [rm_Se_vs]; omega)) hl.1 rfl (Nat.le_of_ble_eq_true rfl) d_Se_visit_20 (fun H locs hZ => ?_)
    refine lv_aload_n hx0 hb d_Se_visit_23 rfl (lv_at hl 0 rfl) ?_
    refine fg_Se_wanted hx0 hb hts hown hZ d_Se_visit_24 ?_
    refine lv_icmp_ge (tgt := 31) hx0 hb d_Se_visit_27 (by decide) (fun c3 => ?_) (fun c3 => ?_)
    · replace h := (if_pos c3).symm.trans h
      refine lv_iload_n hx0 hb d_Se_visit_31 rfl (lv_at hl 1 rfl) ?_
      refine lv_aload_n hx0 hb d_Se_visit_32 rfl (lv_at hl 0 rfl) ?_
      refine fg_Se_columns hx0 hb hts hown hZ d_Se_visit_33 ?_
      refine lv_icmp_ge (tgt := 48) hx0 hb d_Se_visit_36 (by decide) (fun c4 => ?_) (fun c4 => ?_)
      · replace h := (if_pos c4).symm.trans h
        refine lv_aload_n hx0 hb d_Se_visit_48 rfl (lv_at hl 0 rfl) ?_
        refine lv_iload_n hx0 hb d_Se_visit_49 rfl (lv_at hl 2 rfl) ?_
        obtain ⟨q5, hc6, h⟩ := bnd_some h
        refine k_Se_Se_keep [.int a2] hx0 hb hml hts hown (c_Se_keep l G a2 q2.2 q5 hc6) hZ rfl rfl (by refine ⟨?_, ?_⟩ <;> (dsimp only [rm_Se_vs]; omega)) hl.1 rfl (Nat.le_of_ble_eq_true rfl) d_Se_visit_50 (fun H locs hZ => ?_)
        obtain rfl := Option.some.inj h
        exact z_vretC hx0 hb hr hZ hlocks hQ d_Se_visit_53
      · replace h := (if_neg c4).symm.trans h
        refine lv_aload_n hx0 hb d_Se_visit_39 rfl (lv_at hl 0 rfl) ?_
        refine lv_iload_n hx0 hb d_Se_visit_40 rfl (lv_at hl 1 rfl) ?_
        refine lv_iload_n hx0 hb d_Se_visit_41 rfl (lv_at hl 2 rfl) ?_
        obtain ⟨q7, hc8, h⟩ := bnd_some h
        refine k_Se_Se_settle [.int a1, .int a2] hx0 hb hml hts hown (hrc a1 a2 q2.2 q7 hc8) hZ rfl rfl (by refine ⟨?_, ?_⟩ <;> (dsimp only [rm_Se_vs]; omega)) hl.1 rfl (Nat.le_of_ble_eq_true rfl) d_Se_visit_42 (fun H locs hZ => ?_)
        refine lv_goto (tgt := 53) hx0 hb d_Se_visit_45 (by decide) ?_
        obtain rfl := Option.some.inj h
        exact z_vretC hx0 hb hr hZ hlocks hQ d_Se_visit_53
    · replace h := (if_neg c3).symm.trans h
      obtain rfl := Option.some.inj h
      exact z_vretC hx0 hb hr hZ hlocks hQ d_Se_visit_30
set_option maxHeartbeats 4000000 in
set_option maxRecDepth 100000 in
theorem c_Se_settle_open (l : Launch) (G : zG) (d : Nat) (rc : Int32 → Int32 → Mem → Option Mem) (hrc : ∀ (a1 a2 : Int32) (M r : Mem), rc a1 a2 M = some r → MetZC l G y_Se_visit (Cond.code y_Se_visit b_Se_visit 3 none :: zws) (rm_Se_vs d) [.ref (G.1 24), .int a1, .int a2] M none r) (a1 a2 : Int32) (M : Mem) (r : Mem) (h : p_Se_settle rc a1 a2 M = some r) : MetZC l G y_Se_settle (Cond.code y_Se_settle b_Se_settle 5 none :: zws) (rm_Se_vs (d + 1)) [.ref (G.1 24), .int a1, .int a2] M none r := by
  unfold p_Se_settle at h
  refine z_ofWC (lv := [(0, .ref (G.1 24)), (1, .int a1), (2, .int a2)]) (by decide) (Nat.le_of_ble_eq_true rfl) rfl (fun p e R s m args below meth c Q ls F hl hZ => ?_)
  obtain ⟨hx0, hb, hml, hr, hts, hown, hlocks, rfl, hQ⟩ := F
  refine lv_iconst (v := (0 : Int32)) hx0 hb d_Se_settle_0 (by decide) ?_
  refine lv_istore_n (lv' := [(3, .int (0 : Int32)), (0, .ref (G.1 24)), (1, .int a1), (2, .int a2)]) hx0 hb d_Se_settle_1 rfl hl (by decide) rfl (fun ls hl => ?_)
  obtain ⟨q1, hq4, h⟩ := bnd_some h
  refine W_itr (At := fun (s0 : Int32 × Mem) => ∀ (H : Heap) (locs : List Loc) (ls : Array Slot), ZZC G s s0.2 H locs → lv_has ls 5 [(3, .int s0.1), (0, .ref (G.1 24)), (1, .int a1), (2, .int a2)] → W p l e (rm_Se_vs (d + 1)) s m args below meth c H locs 0 0 Q (F0 m 2 ls [])) (Ex := fun (q0 : Int32 × Mem) => ∀ (H : Heap) (locs : List Loc) (ls : Array Slot), ZZC G s q0.2 H locs → lv_has ls 5 [(0, .ref (G.1 24)), (1, .int a1)] → W p l e (rm_Se_vs (d + 1)) s m args below meth c H locs 0 0 Q (F0 m 60 ls [])) (fun s0 x h hx => ?_) _ _ q1 hq4 (fun H locs ls hZ hl => ?_) _ _ _ hZ (lv_sub hl [0, 1, 2, 3] rfl)
  · obtain ⟨x3_2, M_2⟩ := s0
    replace h : p_Se_settle_L2 rc a1 a2 x3_2 M_2 = some x := h
    unfold p_Se_settle_L2 at h
    intro H locs ls hZ hl
    replace hZ : ZZC G s M_2 H locs := hZ
    replace hl : lv_has ls 5 [(3, .int x3_2), (0, .ref (G.1 24)), (1, .int a1), (2, .int a2)] := hl
    refine lv_iload_n hx0 hb d_Se_settle_2 rfl (lv_at hl 0 rfl) ?_
    refine lv_aload_n hx0 hb d_Se_settle_3 rfl (lv_at hl 1 rfl) ?_
    refine fg_Se_choiceCounts hx0 hb hts hown hZ d_Se_settle_4 ?_
    refine lv_iload_n hx0 hb d_Se_settle_7 rfl (lv_at hl 2 rfl) ?_
    obtain ⟨hi2_1, h⟩ := chk_some h
    refine z_ialoadC (k := 33) hx0 hb hZ hi2_1 d_Se_settle_8 ?_
    refine lv_icmp_ge (tgt := 60) hx0 hb d_Se_settle_9 (by decide) (fun c2_2 => ?_) (fun c2_2 => ?_)
    · replace h := (if_pos c2_2).symm.trans h
      obtain rfl := Option.some.inj h
      exact hx _ _ _ hZ (lv_sub hl [1, 2] rfl)
    · replace h := (if_neg c2_2).symm.trans h
      refine lv_aload_n hx0 hb d_Se_settle_12 rfl (lv_at hl 1 rfl) ?_
      refine fg_Se_choices hx0 hb hts hown hZ d_Se_settle_13 ?_
      refine lv_iload_n hx0 hb d_Se_settle_16 rfl (lv_at hl 2 rfl) ?_
      obtain ⟨hi2_3, h⟩ := chk_some h
      refine z_aaload_C26 hx0 hb hZ hi2_3 d_Se_settle_17 ?_
      refine lv_iload_n hx0 hb d_Se_settle_18 rfl (lv_at hl 0 rfl) ?_
      obtain ⟨hi2_4, h⟩ := chk_some h
      refine z_ialoadC (k := (27 + Int32.toNatClampNeg a1)) hx0 hb hZ hi2_4 d_Se_settle_19 ?_
      refine lv_istore (lv' := [(4, .int (M_2.1 (27 + Int32.toNatClampNeg a1) (Int32.toNatClampNeg x3_2))), (3, .int x3_2), (0, .ref (G.1 24)), (1, .int a1), (2, .int a2)]) hx0 hb d_Se_settle_20 hl (by decide) rfl (fun ls hl => ?_)
      refine lv_aload_n hx0 hb d_Se_settle_22 rfl (lv_at hl 2 rfl) ?_
      refine fg_Se_least hx0 hb hts hown hZ d_Se_settle_23 ?_
      refine lv_iload_n hx0 hb d_Se_settle_26 rfl (lv_at hl 3 rfl) ?_
      refine lv_iload hx0 hb d_Se_settle_27 (lv_at hl 0 rfl) ?_
      obtain ⟨hi2_5, h⟩ := chk_some h
      refine z_iastoreC (k := 34) hx0 hb hZ hi2_5 d_Se_settle_29 (fun H locs hZ => ?_)
      obtain ⟨m2_6, em2_6, h⟩ := nm_some h
      rw [em2_6] at hZ
      refine lv_aload_n hx0 hb d_Se_settle_30 rfl (lv_at hl 2 rfl) ?_
      refine fg_Se_most hx0 hb hts hown hZ d_Se_settle_31 ?_
      refine lv_iload_n hx0 hb d_Se_settle_34 rfl (lv_at hl 3 rfl) ?_
      refine lv_iload hx0 hb d_Se_settle_35 (lv_at hl 0 rfl) ?_
      obtain ⟨hi2_7, h⟩ := chk_some h
      refine z_iastoreC (k := 35) hx0 hb hZ hi2_7 d_Se_settle_37 (fun H locs hZ => ?_)
      obtain ⟨m2_8, em2_8, h⟩ := nm_some h
      rw [em2_8] at hZ
      refine lv_aload_n hx0 hb d_Se_settle_38 rfl (lv_at hl 2 rfl) ?_
      refine lv_iload_n hx0 hb d_Se_settle_39 rfl (lv_at hl 3 rfl) ?_
      refine lv_iconst (v := (1 : Int32)) hx0 hb d_Se_settle_40 (by decide) ?_
      refine lv_iadd hx0 hb d_Se_settle_41 ?_
      refine lv_iload_n hx0 hb d_Se_settle_42 rfl (lv_at hl 4 rfl) ?_
      refine lv_aload_n hx0 hb d_Se_settle_43 rfl (lv_at hl 2 rfl) ?_
      refine lv_iload_n hx0 hb d_Se_settle_44 rfl (lv_at hl 3 rfl) ?_
      refine lv_iload hx0 hb d_Se_settle_45 (lv_at hl 0 rfl) ?_
      obtain ⟨q2_9, hc2_12, h⟩ := bnd_some h
      refine k_Se_Se_costOf [.int a1, .int (M_2.1 (27 + Int32.toNatClampNeg a1) (Int32.toNatClampNeg x3_2))] hx0 hb hml hts hown (c_Se_costOf l G a1 (M_2.1 (27 + Int32.toNatClampNeg a1) (Int32.toNatClampNeg x3_2)) m2_8 q2_9 hc2_12) hZ rfl rfl (by refine ⟨?_, ?_⟩ <;> (dsimp only [rm_Se_vs]; omega)) hl.1 rfl (Nat.le_of_ble_eq_true rfl) d_Se_settle_47 (fun H locs hZ => ?_)
      refine lv_iadd hx0 hb d_Se_settle_50 ?_
      obtain ⟨q2_10, hc2_11, h⟩ := bnd_some h
      refine k_Se_Se_visit [.int (a1 + (1 : Int32)), .int (a2 + q2_9)] hx0 hb hml hts hown (hrc (a1 + (1 : Int32)) (a2 + q2_9) m2_8 q2_10 hc2_11) hZ rfl rfl (by refine ⟨?_, ?_⟩ <;> (dsimp only [rm_Se_vs]; omega)) hl.1 rfl (Nat.le_of_ble_eq_true rfl) d_Se_settle_51 (fun H locs hZ => ?_)
      refine lv_iinc (v := (x3_2 + (1 : Int32))) (lv' := [(3, .int (x3_2 + (1 : Int32))), (4, .int (M_2.1 (27 + Int32.toNatClampNeg a1) (Int32.toNatClampNeg x3_2))), (0, .ref (G.1 24)), (1, .int a1), (2, .int a2)]) hx0 hb d_Se_settle_54 hl (k := 1) rfl rfl (by decide) rfl (fun ls hl => ?_)
      refine lv_goto (tgt := 2) hx0 hb d_Se_settle_57 (by decide) ?_
      obtain rfl := Option.some.inj h
      exact hx _ _ _ hZ (lv_sub hl [0, 2, 3, 4] rfl)
  · replace hZ : ZZC G s q1.2 H locs := hZ
    replace hl : lv_has ls 5 [(0, .ref (G.1 24)), (1, .int a1)] := hl
    refine lv_aload_n hx0 hb d_Se_settle_60 rfl (lv_at hl 0 rfl) ?_
    refine lv_iload_n hx0 hb d_Se_settle_61 rfl (lv_at hl 1 rfl) ?_
    obtain ⟨q2, hc3, h⟩ := bnd_some h
    refine k_Se_Se_open [.int a1] hx0 hb hml hts hown (c_Se_open l G a1 q1.2 q2 hc3) hZ rfl rfl (by refine ⟨?_, ?_⟩ <;> (dsimp only [rm_Se_vs]; omega)) hl.1 rfl (Nat.le_of_ble_eq_true rfl) d_Se_settle_62 (fun H locs hZ => ?_)
    obtain rfl := Option.some.inj h
    exact z_vretC hx0 hb hr hZ hlocks hQ d_Se_settle_65
theorem c_Se_vs (l : Launch) (G : zG) : ∀ d : Nat, (∀ (a1 a2 : Int32) (M r : Mem), p_Se_vs d true a1 a2 M = some r → MetZC l G y_Se_visit (Cond.code y_Se_visit b_Se_visit 3 none :: zws) (rm_Se_vs d) [.ref (G.1 24), .int a1, .int a2] M none r) ∧ (∀ (a1 a2 : Int32) (M r : Mem), p_Se_vs d false a1 a2 M = some r → MetZC l G y_Se_settle (Cond.code y_Se_settle b_Se_settle 5 none :: zws) (rm_Se_vs d) [.ref (G.1 24), .int a1, .int a2] M none r) := by
  intro d
  induction d with
  | zero => exact ⟨fun _ _ _ _ h => (by simp [p_Se_vs] at h), fun _ _ _ _ h => (by simp [p_Se_vs] at h)⟩
  | succ d ih => exact ⟨fun a1 a2 M r h => c_Se_visit_open l G d _ ih.2 a1 a2 M r h, fun a1 a2 M r h => c_Se_settle_open l G d _ ih.1 a1 a2 M r h⟩
abbrev rm_Se_find : Room := ({ frames := 19, cells := 0, slots := 0, locals := 558 } : Room)
set_option maxHeartbeats 4000000 in
set_option maxRecDepth 100000 in
theorem c_Se_find (l : Launch) (G : zG) (a1 : Int32) (M : Mem) (r : Int32 × Mem) (h : p_Se_find a1 M = some r) : MetZC l G y_Se_find (Cond.code y_Se_find b_Se_find 3 (some .boolean) :: zws) rm_Se_find [.ref (G.1 24), .int a1] M (some (.int r.1)) r.2 := by
  unfold p_Se_find at h
  refine z_ofWC (lv := [(0, .ref (G.1 24)), (1, .int a1)]) (by decide) (Nat.le_of_ble_eq_true rfl) rfl (fun p e R s m args below meth c Q ls F hl hZ => ?_)
  obtain ⟨hx0, hb, hml, hr, hts, hown, hlocks, rfl, hQ⟩ := F
  refine lv_aload_n hx0 hb d_Se_find_0 rfl (lv_at hl 0 rfl) ?_
  refine lv_iload_n hx0 hb d_Se_find_1 rfl (lv_at hl 1 rfl) ?_
  refine fp_Se_wanted hx0 hb hts hown hZ d_Se_find_2 (fun H locs hZ => ?_)
  obtain ⟨m1, em1, h⟩ := nm_some h
  rw [em1] at hZ
  refine lv_aload_n hx0 hb d_Se_find_5 rfl (lv_at hl 0 rfl) ?_
  refine lv_ldc (v := (1000000 : Int32)) hx0 hb hown (hts _ wk_Se_33) d_Se_find_6 ?_
  refine fp_Se_bestCost hx0 hb hts hown hZ d_Se_find_8 (fun H locs hZ => ?_)
  obtain ⟨m2, em2, h⟩ := nm_some h
  rw [em2] at hZ
  refine lv_iconst (v := (0 : Int32)) hx0 hb d_Se_find_11 (by decide) ?_
  refine lv_istore_n (lv' := [(2, .int (0 : Int32)), (0, .ref (G.1 24)), (1, .int a1)]) hx0 hb d_Se_find_12 rfl hl (by decide) rfl (fun ls hl => ?_)
  obtain ⟨q3, hq7, h⟩ := bnd_some h
  refine W_itr (At := fun (s0 : Int32 × Mem) => ∀ (H : Heap) (locs : List Loc) (ls : Array Slot), ZZC G s s0.2 H locs → lv_has ls 3 [(2, .int s0.1), (0, .ref (G.1 24))] → W p l e rm_Se_find s m args below meth c H locs 0 0 Q (F0 m 13 ls [])) (Ex := fun (q0 : Int32 × Mem) => ∀ (H : Heap) (locs : List Loc) (ls : Array Slot), ZZC G s q0.2 H locs → lv_has ls 3 [(0, .ref (G.1 24))] → W p l e rm_Se_find s m args below meth c H locs 0 0 Q (F0 m 37 ls [])) (fun s0 x h hx => ?_) _ _ q3 hq7 (fun H locs ls hZ hl => ?_) _ _ _ hZ (lv_sub hl [0, 1] rfl)
  · obtain ⟨x2_13, M_13⟩ := s0
    replace h : p_Se_find_L13 x2_13 M_13 = some x := h
    unfold p_Se_find_L13 at h
    intro H locs ls hZ hl
    replace hZ : ZZC G s M_13 H locs := hZ
    replace hl : lv_has ls 3 [(2, .int x2_13), (0, .ref (G.1 24))] := hl
    refine lv_iload_n hx0 hb d_Se_find_13 rfl (lv_at hl 0 rfl) ?_
    refine lv_aload_n hx0 hb d_Se_find_14 rfl (lv_at hl 1 rfl) ?_
    refine fg_Se_columns hx0 hb hts hown hZ d_Se_find_15 ?_
    refine lv_icmp_ge (tgt := 37) hx0 hb d_Se_find_18 (by decide) (fun c13_1 => ?_) (fun c13_1 => ?_)
    · replace h := (if_pos c13_1).symm.trans h
      obtain rfl := Option.some.inj h
      exact hx _ _ _ hZ (lv_sub hl [1] rfl)
    · replace h := (if_neg c13_1).symm.trans h
      refine lv_aload_n hx0 hb d_Se_find_21 rfl (lv_at hl 1 rfl) ?_
      refine lv_iload_n hx0 hb d_Se_find_22 rfl (lv_at hl 0 rfl) ?_
      obtain ⟨q13_2, hc13_5, h⟩ := bnd_some h
      refine k_Se_Se_gatherChoices [.int x2_13] hx0 hb hml hts hown (c_Se_gatherChoices l G x2_13 M_13 q13_2 hc13_5) hZ rfl rfl ⟨Nat.le_of_ble_eq_true rfl, Nat.le_of_ble_eq_true rfl⟩ hl.1 rfl (Nat.le_of_ble_eq_true rfl) d_Se_find_23 (fun H locs hZ => ?_)
      refine lv_aload_n hx0 hb d_Se_find_26 rfl (lv_at hl 1 rfl) ?_
      refine lv_iload_n hx0 hb d_Se_find_27 rfl (lv_at hl 0 rfl) ?_
      obtain ⟨q13_3, hc13_4, h⟩ := bnd_some h
      refine k_Se_Se_open [.int x2_13] hx0 hb hml hts hown (c_Se_open l G x2_13 q13_2 q13_3 hc13_4) hZ rfl rfl ⟨Nat.le_of_ble_eq_true rfl, Nat.le_of_ble_eq_true rfl⟩ hl.1 rfl (Nat.le_of_ble_eq_true rfl) d_Se_find_28 (fun H locs hZ => ?_)
      refine lv_iinc (v := (x2_13 + (1 : Int32))) (lv' := [(2, .int (x2_13 + (1 : Int32))), (0, .ref (G.1 24))]) hx0 hb d_Se_find_31 hl (k := 0) rfl rfl (by decide) rfl (fun ls hl => ?_)
      refine lv_goto (tgt := 13) hx0 hb d_Se_find_34 (by decide) ?_
      obtain rfl := Option.some.inj h
      exact hx _ _ _ hZ (lv_sub hl [0, 1] rfl)
  · replace hZ : ZZC G s q3.2 H locs := hZ
    replace hl : lv_has ls 3 [(0, .ref (G.1 24))] := hl
    refine lv_aload_n hx0 hb d_Se_find_37 rfl (lv_at hl 0 rfl) ?_
    refine lv_iconst (v := (0 : Int32)) hx0 hb d_Se_find_38 (by decide) ?_
    refine lv_iconst (v := (0 : Int32)) hx0 hb d_Se_find_39 (by decide) ?_
    obtain ⟨q4, hc6, h⟩ := bnd_some h
    refine k_Se_Se_visit [.int (0 : Int32), .int (0 : Int32)] hx0 hb hml hts hown ((c_Se_vs l G 14).1 (0 : Int32) (0 : Int32) q3.2 q4 hc6) hZ rfl rfl ⟨Nat.le_of_ble_eq_true rfl, Nat.le_of_ble_eq_true rfl⟩ hl.1 rfl (Nat.le_of_ble_eq_true rfl) d_Se_find_40 (fun H locs hZ => ?_)
    refine lv_aload_n hx0 hb d_Se_find_43 rfl (lv_at hl 0 rfl) ?_
    refine fg_Se_bestCost hx0 hb hts hown hZ d_Se_find_44 ?_
    refine lv_ldc (v := (1000000 : Int32)) hx0 hb hown (hts _ wk_Se_33) d_Se_find_47 ?_
    refine lv_icmp_ge (tgt := 56) hx0 hb d_Se_find_49 (by decide) (fun c5 => ?_) (fun c5 => ?_)
    · replace h := (if_pos c5).symm.trans h
      refine lv_iconst (v := (0 : Int32)) hx0 hb d_Se_find_56 (by decide) ?_
      obtain rfl := Option.some.inj h
      exact z_zretC hx0 hb hr hZ hlocks hQ rfl d_Se_find_57
    · replace h := (if_neg c5).symm.trans h
      refine lv_iconst (v := (1 : Int32)) hx0 hb d_Se_find_52 (by decide) ?_
      refine lv_goto (tgt := 57) hx0 hb d_Se_find_53 (by decide) ?_
      obtain rfl := Option.some.inj h
      exact z_zretC hx0 hb hr hZ hlocks hQ rfl d_Se_find_57
abbrev rm_ES_nearest : Room := ({ frames := 20, cells := 0, slots := 0, locals := 580 } : Room)
set_option maxHeartbeats 4000000 in
set_option maxRecDepth 100000 in
theorem c_ES_nearest (l : Launch) (G : zG) (a1 : Int32) (M : Mem) (r : Int32 × Mem) (h : p_ES_nearest a1 M = some r) : MetZC l G y_ES_nearest (Cond.code y_ES_nearest b_ES_nearest 2 (some .int) :: zws) rm_ES_nearest [.ref (G.1 0), .int a1] M (some (.int r.1)) r.2 := by
  unfold p_ES_nearest at h
  refine z_ofWC (lv := [(0, .ref (G.1 0)), (1, .int a1)]) (by decide) (Nat.le_of_ble_eq_true rfl) rfl (fun p e R s m args below meth c Q ls F hl hZ => ?_)
  obtain ⟨hx0, hb, hml, hr, hts, hown, hlocks, rfl, hQ⟩ := F
  refine lv_aload_n hx0 hb d_ES_nearest_0 rfl (lv_at hl 0 rfl) ?_
  refine fg_ES_search hx0 hb hts hown hZ d_ES_nearest_1 ?_
  refine lv_iload_n hx0 hb d_ES_nearest_4 rfl (lv_at hl 1 rfl) ?_
  obtain ⟨q1, hc5, h⟩ := bnd_some h
  refine k_ES_Se_find [.int a1] hx0 hb hml hts hown (c_Se_find l G a1 M q1 hc5) hZ rfl rfl ⟨Nat.le_of_ble_eq_true rfl, Nat.le_of_ble_eq_true rfl⟩ hl.1 rfl (Nat.le_of_ble_eq_true rfl) d_ES_nearest_5 (fun H locs hZ => ?_)
  refine lv_if_eq (tgt := 21) hx0 hb d_ES_nearest_8 (by decide) (fun c2 => ?_) (fun c2 => ?_)
  · replace h := (if_pos c2).symm.trans h
    refine lv_bipush (v := (-3 : Int32)) hx0 hb d_ES_nearest_21 (by decide) ?_
    obtain rfl := Option.some.inj h
    exact z_iretC hx0 hb hr hZ hlocks hQ d_ES_nearest_23
  · replace h := (if_neg c2).symm.trans h
    refine lv_aload_n hx0 hb d_ES_nearest_11 rfl (lv_at hl 0 rfl) ?_
    refine fg_ES_search hx0 hb hts hown hZ d_ES_nearest_12 ?_
    obtain ⟨q3, hc4, h⟩ := bnd_some h
    refine k_ES_Se_differing [] hx0 hb hml hts hown (c_Se_differing l G  q1.2 q3 hc4) hZ rfl rfl ⟨Nat.le_of_ble_eq_true rfl, Nat.le_of_ble_eq_true rfl⟩ hl.1 rfl (Nat.le_of_ble_eq_true rfl) d_ES_nearest_15 (fun H locs hZ => ?_)
    refine lv_goto (tgt := 23) hx0 hb d_ES_nearest_18 (by decide) ?_
    obtain rfl := Option.some.inj h
    exact z_iretC hx0 hb hr hZ hlocks hQ d_ES_nearest_23
abbrev rm_ES_nearestAt : Room := ({ frames := 20, cells := 0, slots := 0, locals := 580 } : Room)
set_option maxHeartbeats 4000000 in
set_option maxRecDepth 100000 in
theorem c_ES_nearestAt (l : Launch) (G : zG) (a1 : Int32) (a2 : Int32) (M : Mem) (r : Int64 × Mem) (h : p_ES_nearestAt a1 a2 M = some r) : MetZC l G y_ES_nearestAt (Cond.code y_ES_nearestAt b_ES_nearestAt 3 (some .long) :: zws) rm_ES_nearestAt [.ref (G.1 0), .int a1, .int a2] M (some (.long r.1)) r.2 := by
  unfold p_ES_nearestAt at h
  refine z_ofWC (lv := [(0, .ref (G.1 0)), (1, .int a1), (2, .int a2)]) (by decide) (Nat.le_of_ble_eq_true rfl) rfl (fun p e R s m args below meth c Q ls F hl hZ => ?_)
  obtain ⟨hx0, hb, hml, hr, hts, hown, hlocks, rfl, hQ⟩ := F
  refine lv_aload_n hx0 hb d_ES_nearestAt_0 rfl (lv_at hl 0 rfl) ?_
  refine lv_iload_n hx0 hb d_ES_nearestAt_1 rfl (lv_at hl 2 rfl) ?_
  obtain ⟨q1, hc8, h⟩ := bnd_some h
  refine k_ES_ES_isColumn [.int a2] hx0 hb hml hts hown (c_ES_isColumn l G a2 M q1 hc8) hZ rfl rfl ⟨Nat.le_of_ble_eq_true rfl, Nat.le_of_ble_eq_true rfl⟩ hl.1 rfl (Nat.le_of_ble_eq_true rfl) d_ES_nearestAt_2 (fun H locs hZ => ?_)
  refine lv_if_eq (tgt := 19) hx0 hb d_ES_nearestAt_5 (by decide) (fun c2 => ?_) (fun c2 => ?_)
  · replace h := (if_pos c2).symm.trans h
    refine lv_ldc2 (v := (-1000000000000 : Int64)) hx0 hb hown (hts _ wk_ES_114) d_ES_nearestAt_19 ?_
    obtain rfl := Option.some.inj h
    exact z_lretC hx0 hb hr hZ hlocks hQ d_ES_nearestAt_22
  · replace h := (if_neg c2).symm.trans h
    refine lv_aload_n hx0 hb d_ES_nearestAt_8 rfl (lv_at hl 0 rfl) ?_
    refine fg_ES_search hx0 hb hts hown hZ d_ES_nearestAt_9 ?_
    refine lv_iload_n hx0 hb d_ES_nearestAt_12 rfl (lv_at hl 1 rfl) ?_
    obtain ⟨q3, hc7, h⟩ := bnd_some h
    refine k_ES_Se_find [.int a1] hx0 hb hml hts hown (c_Se_find l G a1 M q3 hc7) hZ rfl rfl ⟨Nat.le_of_ble_eq_true rfl, Nat.le_of_ble_eq_true rfl⟩ hl.1 rfl (Nat.le_of_ble_eq_true rfl) d_ES_nearestAt_13 (fun H locs hZ => ?_)
    refine lv_if_ne (tgt := 23) hx0 hb d_ES_nearestAt_16 (by decide) (fun c4 => ?_) (fun c4 => ?_)
    · replace h := (if_neg c4).symm.trans h
      refine lv_aload_n hx0 hb d_ES_nearestAt_23 rfl (lv_at hl 0 rfl) ?_
      refine fg_ES_search hx0 hb hts hown hZ d_ES_nearestAt_24 ?_
      refine lv_iload_n hx0 hb d_ES_nearestAt_27 rfl (lv_at hl 2 rfl) ?_
      obtain ⟨q5, hc6, h⟩ := bnd_some h
      refine k_ES_Se_foundIn [.int a2] hx0 hb hml hts hown (c_Se_foundIn l G a2 q3.2 q5 hc6) hZ rfl rfl ⟨Nat.le_of_ble_eq_true rfl, Nat.le_of_ble_eq_true rfl⟩ hl.1 rfl (Nat.le_of_ble_eq_true rfl) d_ES_nearestAt_28 (fun H locs hZ => ?_)
      refine lv_i2l (v := Int32.toInt64 q5) hx0 hb d_ES_nearestAt_31 rfl ?_
      obtain rfl := Option.some.inj h
      exact z_lretC hx0 hb hr hZ hlocks hQ d_ES_nearestAt_32
    · replace h := (if_pos c4).symm.trans h
      refine lv_ldc2 (v := (-1000000000000 : Int64)) hx0 hb hown (hts _ wk_ES_114) d_ES_nearestAt_19 ?_
      obtain rfl := Option.some.inj h
      exact z_lretC hx0 hb hr hZ hlocks hQ d_ES_nearestAt_22
