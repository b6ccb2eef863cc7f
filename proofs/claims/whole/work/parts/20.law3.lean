theorem loop_lt {L i : Nat} (hL : L ≤ 2561) (hi : i ≤ 3000) (h : ¬ (Int32.ofNat L - 5 < nI i)) : i + 5 ≤ L := by
  rcases Nat.lt_or_ge L (i + 5) with q | q
  · refine absurd ?_ h
    rw [Int32.lt_iff_toInt_lt, show Int32.ofNat L - 5 = nI L - nI 5 from rfl, pk_sub_toInt (by omega) (by omega), nI_toInt (by omega)]
    omega
  · exact q
set_option maxHeartbeats 4000000 in
set_option maxRecDepth 100000 in
theorem law_loop {p : Program} {l : Launch} {e : Env} {s : State} {m : MethodId} {below : List Frame} {meth : Method} {c : Code} {b L : Nat} {xs : Nat → Int32} {G1 G2 : zG} {o : Nat} {Inv : Mem → Mem → Prop} (hL : L ≤ 2561) (C0 : lw_At p s m meth c b L xs) (hfl : l.flags = pinnedFlags ++ [noTraceFlag]) (hZX : zX s.heap.size s) (hG : Good Inv) :
    ∀ (n i cl sl : Nat) (M1 M2 : Mem) (fo : Nat → Int64) (H : Heap) (locs : List Loc) (ls : Array Slot) (x4 : Int32), x4 = nI i → i ≤ L + 6 → L + 7 ≤ i + n → cl ≤ 100 + i → sl ≤ 3000 + 6 * i → Inv M1 M2 → ZL G1 G2 o s M1 M2 fo H locs → lv_has ls 8 [(0, .ref b), (1, .ref (G1.1 0)), (2, .ref (G2.1 0)), (3, .ref o), (4, .int x4)] → W p l e room_1 s m #[Value.ref b] below meth c H locs cl sl (lw_Z below #[Value.ref b] s) (F0 m 33 ls []) := by
  obtain ⟨hx0, hb, hr, hml, hown, hts0, hX, hbl, hlocks, hgv⟩ := C0
  have hts : ∀ w ∈ zws, w.before #[Value.ref b] s = true := fun w hw => hts0 w (zws_in hw)
  have hown : s.vm.findClass R_La = some m.cls := hown
  intro n
  induction n with
  | zero => intro i cl sl M1 M2 fo H locs ls x4 _ h1 h2; omega
  | succ n ih =>
    intro i cl sl M1 M2 fo H locs ls x4 ex hi hn hcl hsl hInv hZ hl
    refine lv_iload hx0 hb d_La_law_33 (lv_at hl 4 rfl) ?_
    refine lv_aload_n hx0 hb d_La_law_35 rfl (lv_at hl 0 rfl) ?_
    refine va_slen hx0 hb hX hbl (Nat.not_le.mpr hbl) hZ.2.2.2.2.2.2.2.2 d_La_law_36 ?_
    refine lv_iconst (v := (5 : Int32)) hx0 hb d_La_law_37 (by decide) ?_
    refine lv_isub hx0 hb d_La_law_38 ?_
    refine lv_icmp_gt (tgt := 1035) hx0 hb d_La_law_39 (by decide) (fun c1 => ?_) (fun c1 => ?_)
    · refine lv_iconst (v := (1 : Int32)) hx0 hb d_La_law_1035 (by decide) ?_
      refine va_forget (fun q hq => hZ.2.2.2.2.2.2.2.2.2.2 q hq) ?_
      refine W.widen (k := 642622) (n := 7168204) (by omega) (by omega) ?_
      exact lw_ret hx0 hb hr hlocks d_La_law_1036
    · have hlt : i + 5 ≤ L := loop_lt hL (by omega) (by rw [← ex]; exact c1)
      have h0 : vp_in x4 L := by rw [ex]; exact vp_in_nI (by omega) (by omega)
      have h1 : vp_in (x4 + (1 : Int32)) L := by rw [ex, show nI i + (1 : Int32) = nI (i + 1) from nI_add i 1]; exact vp_in_nI (by omega) (by omega)
      have h2 : vp_in (x4 + (2 : Int32)) L := by rw [ex, show nI i + (2 : Int32) = nI (i + 2) from nI_add i 2]; exact vp_in_nI (by omega) (by omega)
      have h3 : vp_in (x4 + (3 : Int32)) L := by rw [ex, show nI i + (3 : Int32) = nI (i + 3) from nI_add i 3]; exact vp_in_nI (by omega) (by omega)
      have h4 : vp_in (x4 + (4 : Int32)) L := by rw [ex, show nI i + (4 : Int32) = nI (i + 4) from nI_add i 4]; exact vp_in_nI (by omega) (by omega)
      have kk : ∀ (cl' sl' : Nat) (N1 N2 : Mem) (fo' : Nat → Int64) (H1 : Heap) (locs1 : List Loc) (ls1 : Array Slot), cl' ≤ cl + 1 → sl' ≤ sl + 6 → Inv N1 N2 → ZL G1 G2 o s N1 N2 fo' H1 locs1 → lv_has ls1 8 [(0, .ref b), (1, .ref (G1.1 0)), (2, .ref (G2.1 0)), (3, .ref o), (4, .int x4)] → W p l e room_1 s m #[Value.ref b] below meth c H1 locs1 cl' sl' (lw_Z below #[Value.ref b] s) (F0 m 1029 ls1 []) := by
        intro cl' sl' N1 N2 fo' H1 locs1 ls1 q1 q2 hI hZ1 hl1
        refine lv_iinc (v := x4 + (5 : Int32)) (lv' := [(4, .int (x4 + (5 : Int32))), (0, .ref b), (1, .ref (G1.1 0)), (2, .ref (G2.1 0)), (3, .ref o)]) hx0 hb d_La_law_1029 hl1 (k := 4) rfl rfl (by decide) rfl (fun ls hl => ?_)
        refine lv_goto (tgt := 33) hx0 hb d_La_law_1032 (by decide) ?_
        exact ih (i + 5) cl' sl' N1 N2 fo' H1 locs1 ls (x4 + (5 : Int32)) (by rw [ex]; exact nI_add i 5) (by omega) (by omega) (by omega) (by omega) hI hZ1 (lv_sub hl [1, 2, 3, 4, 0] rfl)
      refine lv_aload_n hx0 hb d_La_law_42 rfl (lv_at hl 0 rfl) ?_
      refine lv_iload hx0 hb d_La_law_43 (lv_at hl 4 rfl) ?_
      refine va_sld hx0 hb hX hbl (Nat.not_le.mpr hbl) hZ.2.2.2.2.2.2.2.2 h0 d_La_law_45 ?_
      refine lv_bipush (v := (31 : Int32)) hx0 hb d_La_law_46 (by decide) ?_
      refine lv_iand hx0 hb d_La_law_48 ?_
      obtain ⟨j, hj, hw⟩ := pk_andE (xs (Int32.toNatClampNeg x4)) (m := 31) 5 (by decide)
      rw [hw]
      obtain ⟨g0, g1, g2, g3, g4, g5, g6, g7, g8, g9, g10, g11, g12, g13, g14, g15, g16, g17, g18⟩ := hG
      match j, hj with
      | 0, _ =>
        refine lv_tableIn (tgt := 140) (off := 91) hx0 hb d_La_law_49 (by decide) (by decide) (by decide) (by decide) ?_
        exact law_leaf hx0 hb hml hts hown hfl hX hbl hZX h1 h2 h3 h4 (by omega) (by omega) hZ hInv hl g0 kk
      | 1, _ =>
        refine lv_tableIn (tgt := 165) (off := 116) hx0 hb d_La_law_49 (by decide) (by decide) (by decide) (by decide) ?_
        exact law_split hx0 hb hml hts hown hfl hX hbl hZX h1 h2 h3 h4 (by omega) (by omega) hZ hInv hl g1 kk
      | 2, _ =>
        refine lv_tableIn (tgt := 226) (off := 177) hx0 hb d_La_law_49 (by decide) (by decide) (by decide) (by decide) ?_
        exact law_root hx0 hb hml hts hown hfl hX hbl hZX h1 h2 h3 h4 (by omega) (by omega) hZ hInv hl g2 kk
      | 3, _ =>
        refine lv_tableIn (tgt := 251) (off := 202) hx0 hb d_La_law_49 (by decide) (by decide) (by decide) (by decide) ?_
        exact law_weight hx0 hb hml hts hown hfl hX hbl hZX h1 h2 h3 h4 (by omega) (by omega) hZ hInv hl g3 kk
      | 4, _ =>
        refine lv_tableIn (tgt := 288) (off := 239) hx0 hb d_La_law_49 (by decide) (by decide) (by decide) (by decide) ?_
        exact law_clear hx0 hb hml hts hown hfl hX hbl hZX h1 h2 h3 h4 (by omega) (by omega) hZ hInv hl g4 kk
      | 5, _ =>
        refine lv_tableIn (tgt := 301) (off := 252) hx0 hb d_La_law_49 (by decide) (by decide) (by decide) (by decide) ?_
        exact law_background hx0 hb hml hts hown hfl hX hbl hZX h1 h2 h3 h4 (by omega) (by omega) hZ hInv hl g5 kk
      | 6, _ =>
        refine lv_tableIn (tgt := 314) (off := 265) hx0 hb d_La_law_49 (by decide) (by decide) (by decide) (by decide) ?_
        exact law_item hx0 hb hml hts hown hfl hX hbl hZX h1 h2 h3 h4 (by omega) (by omega) hZ hInv hl g6 kk
      | 7, _ =>
        refine lv_tableIn (tgt := 363) (off := 314) hx0 hb d_La_law_49 (by decide) (by decide) (by decide) (by decide) ?_
        exact law_group hx0 hb hml hts hown hfl hX hbl hZX h1 h2 h3 h4 (by omega) (by omega) hZ hInv hl g7 kk
      | 8, _ =>
        refine lv_tableIn (tgt := 400) (off := 351) hx0 hb d_La_law_49 (by decide) (by decide) (by decide) (by decide) ?_
        exact law_answer hx0 hb hml hts hown hfl hX hbl hZX h1 h2 h3 h4 (by omega) (by omega) hZ hInv hl g8 kk
      | 9, _ =>
        refine lv_tableIn (tgt := 426) (off := 377) hx0 hb d_La_law_49 (by decide) (by decide) (by decide) (by decide) ?_
        exact law_value hx0 hb hml hts hown hfl hX hbl hZX h1 h2 h3 h4 (by omega) (by omega) hZ hInv hl g9 kk
      | 10, _ =>
        refine lv_tableIn (tgt := 493) (off := 444) hx0 hb d_La_law_49 (by decide) (by decide) (by decide) (by decide) ?_
        exact law_share hx0 hb hml hts hown hfl hX hbl hZX h1 h2 h3 h4 (by omega) (by omega) hZ hInv hl g10 kk
      | 11, _ =>
        refine lv_tableIn (tgt := 572) (off := 523) hx0 hb d_La_law_49 (by decide) (by decide) (by decide) (by decide) ?_
        exact law_both hx0 hb hml hts hown hfl hX hbl hZX h1 h2 h3 h4 (by omega) (by omega) hZ hInv hl g11 kk
      | 12, _ =>
        refine lv_tableIn (tgt := 651) (off := 602) hx0 hb d_La_law_49 (by decide) (by decide) (by decide) (by decide) ?_
        exact law_drawn hx0 hb hml hts hown hfl hX hbl hZX h1 h2 h3 h4 (by omega) (by omega) hZ hInv hl g12 kk
      | 13, _ =>
        refine lv_tableIn (tgt := 742) (off := 693) hx0 hb d_La_law_49 (by decide) (by decide) (by decide) (by decide) ?_
        exact law_partial hx0 hb hml hts hown hfl hX hbl hZX h1 h2 h3 h4 (by omega) (by omega) hZ hInv hl g13 kk
      | 14, _ =>
        refine lv_tableIn (tgt := 821) (off := 772) hx0 hb d_La_law_49 (by decide) (by decide) (by decide) (by decide) ?_
        exact law_worth hx0 hb hml hts hown hfl hX hbl hZX h1 h2 h3 h4 (by omega) (by omega) hZ hInv hl g14 kk
      | 15, _ =>
        refine lv_tableIn (tgt := 888) (off := 839) hx0 hb d_La_law_49 (by decide) (by decide) (by decide) (by decide) ?_
        exact law_rank hx0 hb hml hts hown hfl hX hbl hZX h1 h2 h3 h4 (by omega) (by omega) hZ hInv hl g15 kk
      | 16, _ =>
        refine lv_tableIn (tgt := 913) (off := 864) hx0 hb d_La_law_49 (by decide) (by decide) (by decide) (by decide) ?_
        exact law_bar hx0 hb hml hts hown hfl hX hbl hZX h1 h2 h3 h4 (by omega) (by omega) hZ hInv hl g16 kk
      | 17, _ =>
        refine lv_tableIn (tgt := 966) (off := 917) hx0 hb d_La_law_49 (by decide) (by decide) (by decide) (by decide) ?_
        exact law_nearest hx0 hb hml hts hown hfl hX hbl hZX h1 h2 h3 h4 (by omega) (by omega) hZ hInv hl g17 kk
      | 18, _ =>
        refine lv_tableIn (tgt := 991) (off := 942) hx0 hb d_La_law_49 (by decide) (by decide) (by decide) (by decide) ?_
        exact law_nearestAt hx0 hb hml hts hown hfl hX hbl hZX h1 h2 h3 h4 (by omega) (by omega) hZ hInv hl g18 kk
      | j + 19, hj =>
        refine lv_tableOut (tgt := 1029) hx0 hb d_La_law_49 (Or.inr (by rw [nI_toInt (by omega)]; omega)) (by decide) ?_
        exact kk cl sl M1 M2 fo H locs ls (by omega) (by omega) hInv hZ hl
