theorem lw_in {w : Cond} (i : Nat) (h : tables_1[i]? = some w) : w ∈ lw_tbl := List.mem_append_right _ (List.mem_of_getElem? h)
theorem start_X {s : State} {b : Nat} (hts0 : ∀ w ∈ lw_tbl, w.before #[Value.ref b] s = true) (hgv : (Jvm.Cond.and given_1 narrow_1).before #[Value.ref b] s = true) : zX s.heap.size s := by
  have hs := flat_of_before _ hgv
  obtain ⟨a, _, _, _, ha, -⟩ := Cond.exactly_spec (hs (Cond.exactly (.string R_ES 186) "java/lang/String") (by decide +kernel))
  refine ⟨⟨va_any rfl (hts0 (.castable xN xN) (lw_in 472 (by decide +kernel))), va_any rfl (hts0 (xD "java/lang/RuntimeException") (lw_in 474 (by decide +kernel))), va_any rfl (hts0 (xD "java/lang/Exception") (lw_in 476 (by decide +kernel))), va_any rfl (hts0 (xD Jvm.Bundle.tN) (lw_in 478 (by decide +kernel)))⟩, ?_, ?_, a, vk_R.of (hts0 (.stringRef R_ES 186 "there is no background row") (lw_in 509 (by decide +kernel))) ha⟩
  · exact zS_of (hts0 (.laysStatic Jvm.Bundle.tN "UNASSIGNED_STACK" Jvm.Bundle.steD) (lw_in 497 (by decide +kernel))) (hs xUn (by decide +kernel))
  · exact zS_of (hts0 (.laysStatic Jvm.Bundle.tN "SUPPRESSED_SENTINEL" Jvm.Bundle.listD) (lw_in 499 (by decide +kernel))) (hs xSu (by decide +kernel))
theorem start_A {s : State} {args : Array Value} {ty : FieldType} (h : (Cond.arrayClass ty).before args s = true) : ∃ cA : ClassId, ArrOfT s cA ty ∧ s.vm.findClass ("[" ++ ty.toString) = some cA := by
  obtain ⟨cA, k, comp, h1, h2, h3⟩ := Cond.arrayClass_spec h
  exact ⟨cA, fun N z => ⟨(fun k h => by cases h), k, h2, comp, h3⟩, h1⟩
theorem start_K {s : State} {b : Nat} (hts0 : ∀ w ∈ lw_tbl, w.before #[Value.ref b] s = true) : ∃ G : zG, zKA G s := by
  have hts : ∀ w ∈ zws, w.before #[Value.ref b] s = true := fun w hw => hts0 w (zws_in hw)
  obtain ⟨c0, i0, h0⟩ := u_known (C := R_Ln) (T := F_Ln) (N := 9) (n := 9) hts in_Ln (hts _ win_Ln)
  obtain ⟨c1, i1, h1⟩ := u_known (C := R_Rw) (T := F_Rw) (N := 3) (n := 3) hts in_Rw (hts _ win_Rw)
  obtain ⟨c2, i2, h2⟩ := u_known (C := R_Gr) (T := F_Gr) (N := 2) (n := 2) hts in_Gr (hts _ win_Gr)
  obtain ⟨c3, i3, h3⟩ := u_known (C := R_Or) (T := F_Or) (N := 4) (n := 4) hts in_Or (hts _ win_Or)
  obtain ⟨c4, i4, h4⟩ := u_known (C := R_Me) (T := F_Me) (N := 6) (n := 6) hts in_Me (hts _ win_Me)
  obtain ⟨c5, i5, h5⟩ := u_known (C := R_Se) (T := F_Se) (N := 11) (n := 11) hts in_Se (hts _ win_Se)
  obtain ⟨c6, i6, h6⟩ := u_known (C := R_ES) (T := F_ES) (N := 6) (n := 6) hts in_ES (hts _ win_ES)
  obtain ⟨c7, i7, h7⟩ := u_known (C := R_Md) (T := F_Md) (N := 25) (n := 25) hts in_Md (hts _ win_Md)
  obtain ⟨aI, gI, rI⟩ := start_A (hts _ wa_int)
  obtain ⟨aJ, gJ, rJ⟩ := start_A (hts _ wa_long)
  obtain ⟨aZ, gZ, rZ⟩ := start_A (hts _ wa_bool)
  have hov : (Cond.arrayOver (.array .int)).before #[] s = true := hts0 (.arrayOver (.array .int)) (lw_in 71 (by decide +kernel))
  obtain ⟨comp, aQ, kQ, -, -, q1, q2, q3⟩ := Jvm.Stand.arrayOver_specB hov
  refine ⟨(fun _ => 0, (fun k => match k with | 0 => aI | 1 => aJ | 2 => aZ | _ => aQ), (fun k => match k with | 0 => c0 | 1 => c1 | 2 => c2 | 3 => c3 | 4 => c4 | 5 => c5 | 6 => c6 | _ => c7), (fun k => match k with | 0 => i0 | 1 => i1 | 2 => i2 | 3 => i3 | 4 => i4 | 5 => i5 | 6 => i6 | _ => i7)), ⟨⟨?_, ?_⟩, ?_⟩, hov, ?_, ?_⟩
  · intro k q hq
    match k, hq with
    | 0, hq => cases hq; exact h0
    | 1, hq => cases hq; exact h1
    | 2, hq => cases hq; exact h2
    | 3, hq => cases hq; exact h3
    | 4, hq => cases hq; exact h4
    | 5, hq => cases hq; exact h5
    | 6, hq => cases hq; exact h6
    | 7, hq => cases hq; exact h7
    | k + 8, hq => cases hq
  · intro k q hq
    match k, hq with
    | 0, hq => cases hq; exact ⟨gI, rI⟩
    | 1, hq => cases hq; exact ⟨gJ, rJ⟩
    | 2, hq => cases hq; exact ⟨gZ, rZ⟩
    | 3, hq => cases hq; exact ⟨fun N z => ⟨(fun k h => by cases h), kQ, q1, comp, q2⟩, q3⟩
    | k + 4, hq => cases hq
  · exact va_any rfl (hts0 zNest (lw_in 353 (by decide +kernel)))
  · exact va_any rfl (hts0 zLnNest (lw_in 31 (by decide +kernel)))
  · exact va_any rfl (hts0 zRwNest (lw_in 66 (by decide +kernel)))
/-- the law, out of an invariant of the two pure sides -/
theorem whole_of {Inv : Mem → Mem → Prop} (hG : Good Inv) (hI0 : ∀ a : Int32, Inv (initC (clC a)) (clM (mdM (clT a)))) {p : Program} {e : Env} {s : State} {m : MethodId} {below : List Frame} {meth : Method} {c : Code} (l : Launch) (hfl : l.flags = pinnedFlags ++ [noTraceFlag]) {b L : Nat} {xs : Nat → Int32} (hL : L ≤ 2561) (C0 : lw_At p s m meth c b L xs) : W p l e room_1 s m #[Value.ref b] below meth c s.heap [] 0 0 (lw_Z below #[Value.ref b] s) (entryFrame m ([Value.ref b] : List Value).toArray 8) := by
  obtain ⟨G, hK⟩ := start_K C0.2.2.2.2.2.1
  have hl := lv_entry ([.ref b]) (n := 8) (Nat.le_of_ble_eq_true rfl)
  rw [lg_entry_eq]
  generalize (lg_sl ([.ref b]) ++ List.replicate (8 - (lg_sl ([.ref b])).length) Slot.unset).toArray = ls at hl ⊢
  have hl : lv_has ls 8 [(0, .ref b)] := hl
  exact law_head hL C0 hfl (start_X C0.2.2.2.2.2.1 C0.2.2.2.2.2.2.2.2.2) hK hG hI0 hl
