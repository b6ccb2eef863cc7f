/-! what the two pure sides must do alike: a clause for each call -/
def Gd_leaf (Inv : Mem → Mem → Prop) : Prop := ∀ M1 M2 : Mem, Inv M1 M2 → ∀ a1 : Int32, ∃ (r : Int32) (N1 N2 : Mem), p_ES_leaf a1 M1 = some (r, N1) ∧ p_Md_leaf a1 M2 = some (r, N2) ∧ Inv N1 N2
def Gd_split (Inv : Mem → Mem → Prop) : Prop := ∀ M1 M2 : Mem, Inv M1 M2 → ∀ a1 a2 a3 a4 : Int32, ∃ (r : Int32) (N1 N2 : Mem), p_ES_split a1 a2 a3 a4 M1 = some (r, N1) ∧ p_Md_split a1 a2 a3 a4 M2 = some (r, N2) ∧ Inv N1 N2
def Gd_root (Inv : Mem → Mem → Prop) : Prop := ∀ M1 M2 : Mem, Inv M1 M2 → ∀ a1 : Int32, ∃ (r : Int32) (N1 N2 : Mem), p_ES_root a1 M1 = some (r, N1) ∧ p_Md_root a1 M2 = some (r, N2) ∧ Inv N1 N2
def Gd_weight (Inv : Mem → Mem → Prop) : Prop := ∀ M1 M2 : Mem, Inv M1 M2 → ∀ a1 a2 : Int32, ∃ (r : Int32) (N1 N2 : Mem), p_ES_weight a1 a2 M1 = some (r, N1) ∧ p_Md_weight a1 a2 M2 = some (r, N2) ∧ Inv N1 N2
def Gd_clear (Inv : Mem → Mem → Prop) : Prop := ∀ M1 M2 : Mem, Inv M1 M2 → ∃ (r : Int32) (N1 N2 : Mem), p_ES_clear  M1 = some (r, N1) ∧ p_Md_clear  M2 = some (r, N2) ∧ Inv N1 N2
def Gd_background (Inv : Mem → Mem → Prop) : Prop := ∀ M1 M2 : Mem, Inv M1 M2 → ∃ (r : Int32) (N1 N2 : Mem), p_ES_background  M1 = some (r, N1) ∧ p_Md_background  M2 = some (r, N2) ∧ Inv N1 N2
def Gd_item (Inv : Mem → Mem → Prop) : Prop := ∀ M1 M2 : Mem, Inv M1 M2 → ∀ a1 a2 a3 : Int32, ∃ (r : Int32) (N1 N2 : Mem), p_ES_item a1 a2 a3 M1 = some (r, N1) ∧ p_Md_item a1 a2 a3 M2 = some (r, N2) ∧ Inv N1 N2
def Gd_group (Inv : Mem → Mem → Prop) : Prop := ∀ M1 M2 : Mem, Inv M1 M2 → ∀ a1 a2 : Int32, ∃ (r : Int32) (N1 N2 : Mem), p_ES_group a1 a2 M1 = some (r, N1) ∧ p_Md_group a1 a2 M2 = some (r, N2) ∧ Inv N1 N2
def Gd_answer (Inv : Mem → Mem → Prop) : Prop := ∀ M1 M2 : Mem, Inv M1 M2 → ∀ a1 : Int32, ∃ (r : Int64) (N2 : Mem), p_ES_answer a1 M1 = some r ∧ p_Md_answer a1 M2 = some (r, N2) ∧ Inv M1 N2
def Gd_value (Inv : Mem → Mem → Prop) : Prop := ∀ M1 M2 : Mem, Inv M1 M2 → ∀ a1 a2 : Int32, (∃ (r : Int64) (N1 N2 : Mem), p_ES_value a1 a2 M1 = some (some r, N1) ∧ p_Md_value a1 a2 M2 = some (r, N2) ∧ N2.1 0 0 = 0 ∧ Inv N1 N2) ∨ (∃ (r : Int64) (N1 N2 : Mem), p_ES_value a1 a2 M1 = some (none, N1) ∧ p_Md_value a1 a2 M2 = some (r, N2) ∧ N2.1 0 0 = 1 ∧ Inv N1 N2)
def Gd_share (Inv : Mem → Mem → Prop) : Prop := ∀ M1 M2 : Mem, Inv M1 M2 → ∀ a1 a2 a3 : Int32, (∃ (r : Int64) (N1 N2 : Mem), p_ES_share a1 a2 a3 M1 = some (some r, N1) ∧ p_Md_share a1 a2 a3 M2 = some (r, N2) ∧ N2.1 0 0 = 0 ∧ Inv N1 N2) ∨ (∃ (r : Int64) (N1 N2 : Mem), p_ES_share a1 a2 a3 M1 = some (none, N1) ∧ p_Md_share a1 a2 a3 M2 = some (r, N2) ∧ N2.1 0 0 = 1 ∧ Inv N1 N2)
def Gd_both (Inv : Mem → Mem → Prop) : Prop := ∀ M1 M2 : Mem, Inv M1 M2 → ∀ a1 a2 a3 : Int32, (∃ (r : Int64) (N1 N2 : Mem), p_ES_both a1 a2 a3 M1 = some (some r, N1) ∧ p_Md_both a1 a2 a3 M2 = some (r, N2) ∧ N2.1 0 0 = 0 ∧ Inv N1 N2) ∨ (∃ (r : Int64) (N1 N2 : Mem), p_ES_both a1 a2 a3 M1 = some (none, N1) ∧ p_Md_both a1 a2 a3 M2 = some (r, N2) ∧ N2.1 0 0 = 1 ∧ Inv N1 N2)
def Gd_drawn (Inv : Mem → Mem → Prop) : Prop := ∀ M1 M2 : Mem, Inv M1 M2 → ∀ a1 a2 a3 a4 : Int32, (∃ (r : Int64) (N1 N2 : Mem), p_ES_drawn a1 a2 a3 a4 M1 = some (some r, N1) ∧ p_Md_drawn a1 a2 a3 a4 M2 = some (r, N2) ∧ N2.1 0 0 = 0 ∧ Inv N1 N2) ∨ (∃ (r : Int64) (N1 N2 : Mem), p_ES_drawn a1 a2 a3 a4 M1 = some (none, N1) ∧ p_Md_drawn a1 a2 a3 a4 M2 = some (r, N2) ∧ N2.1 0 0 = 1 ∧ Inv N1 N2)
def Gd_partial (Inv : Mem → Mem → Prop) : Prop := ∀ M1 M2 : Mem, Inv M1 M2 → ∀ a1 a2 a3 : Int32, (∃ (r : Int64) (N1 N2 : Mem), p_ES_partial a1 a2 a3 M1 = some (some r, N1) ∧ p_Md_partial a1 a2 a3 M2 = some (r, N2) ∧ N2.1 0 0 = 0 ∧ Inv N1 N2) ∨ (∃ (r : Int64) (N1 N2 : Mem), p_ES_partial a1 a2 a3 M1 = some (none, N1) ∧ p_Md_partial a1 a2 a3 M2 = some (r, N2) ∧ N2.1 0 0 = 1 ∧ Inv N1 N2)
def Gd_worth (Inv : Mem → Mem → Prop) : Prop := ∀ M1 M2 : Mem, Inv M1 M2 → ∀ a1 a2 : Int32, (∃ (r : Int64) (N1 N2 : Mem), p_ES_worth a1 a2 M1 = some (some r, N1) ∧ p_Md_worth a1 a2 M2 = some (r, N2) ∧ N2.1 0 0 = 0 ∧ Inv N1 N2) ∨ (∃ (r : Int64) (N1 N2 : Mem), p_ES_worth a1 a2 M1 = some (none, N1) ∧ p_Md_worth a1 a2 M2 = some (r, N2) ∧ N2.1 0 0 = 1 ∧ Inv N1 N2)
def Gd_rank (Inv : Mem → Mem → Prop) : Prop := ∀ M1 M2 : Mem, Inv M1 M2 → ∀ a1 : Int32, ∃ (r : Int32) (N1 N2 : Mem), p_ES_rank a1 M1 = some (r, N1) ∧ p_Md_rank a1 M2 = some (r, N2) ∧ Inv N1 N2
def Gd_bar (Inv : Mem → Mem → Prop) : Prop := ∀ M1 M2 : Mem, Inv M1 M2 → ∀ a1 a2 : Int32, (a2 = 0 ∨ a2 = 1) → ∃ (r : Int32) (N1 N2 : Mem), p_ES_bar a1 a2 M1 = some (r, N1) ∧ p_Md_bar a1 a2 M2 = some (r, N2) ∧ Inv N1 N2
def Gd_nearest (Inv : Mem → Mem → Prop) : Prop := ∀ M1 M2 : Mem, Inv M1 M2 → ∀ a1 : Int32, ∃ (r : Int32) (N1 N2 : Mem), p_ES_nearest a1 M1 = some (r, N1) ∧ p_Md_nearest a1 M2 = some (r, N2) ∧ Inv N1 N2
def Gd_nearestAt (Inv : Mem → Mem → Prop) : Prop := ∀ M1 M2 : Mem, Inv M1 M2 → ∀ a1 a2 : Int32, ∃ (r : Int64) (N1 N2 : Mem), p_ES_nearestAt a1 a2 M1 = some (r, N1) ∧ p_Md_nearestAt a1 a2 M2 = some (r, N2) ∧ Inv N1 N2
def Good (Inv : Mem → Mem → Prop) : Prop := Gd_leaf Inv ∧ Gd_split Inv ∧ Gd_root Inv ∧ Gd_weight Inv ∧ Gd_clear Inv ∧ Gd_background Inv ∧ Gd_item Inv ∧ Gd_group Inv ∧ Gd_answer Inv ∧ Gd_value Inv ∧ Gd_share Inv ∧ Gd_both Inv ∧ Gd_drawn Inv ∧ Gd_partial Inv ∧ Gd_worth Inv ∧ Gd_rank Inv ∧ Gd_bar Inv ∧ Gd_nearest Inv ∧ Gd_nearestAt Inv
theorem lgc_self (x : Int64) : lg_cmp x x = 0 := by
  simp [lg_cmp]
set_option maxHeartbeats 4000000 in
set_option maxRecDepth 100000 in
theorem law_leaf {p : Program} {l : Launch} {e : Env} {s : State} {m : MethodId} {below : List Frame} {meth : Method} {c : Code} {Q : State → Prop} {H : Heap} {locs : List Loc} {cl sl b L : Nat} {xs : Nat → Int32} {ls : Array Slot} {G1 G2 : zG} {o : Nat} {M1 M2 : Mem} {fo : Nat → Int64} {x4 : Int32} {Inv : Mem → Mem → Prop} (hx0 : p.tables.exec = Jvm.exec) (hb : c.code = code) (hml : c.maxLocals = 8) (hts : ∀ w ∈ zws, w.before #[Value.ref b] s = true) (hown : s.vm.findClass R_La = some m.cls) (hfl : l.flags = pinnedFlags ++ [noTraceFlag]) (hX : va_X b L xs s s.heap) (hbl : b < s.heap.size) (hZX : zX s.heap.size s) (h1 : vp_in (x4 + (1 : Int32)) L) (h2 : vp_in (x4 + (2 : Int32)) L) (h3 : vp_in (x4 + (3 : Int32)) L) (h4 : vp_in (x4 + (4 : Int32)) L) (hcl : cl ≤ 10000) (hsl : sl ≤ 100000) (hZ : ZL G1 G2 o s M1 M2 fo H locs) (hInv : Inv M1 M2) (hl : lv_has ls 8 [(0, .ref b), (1, .ref (G1.1 0)), (2, .ref (G2.1 0)), (3, .ref o), (4, .int x4)]) (hG : Gd_leaf Inv) (kk : ∀ (cl' sl' : Nat) (N1 N2 : Mem) (fo' : Nat → Int64) (H1 : Heap) (locs1 : List Loc) (ls1 : Array Slot), cl' ≤ cl + 1 → sl' ≤ sl + 6 → Inv N1 N2 → ZL G1 G2 o s N1 N2 fo' H1 locs1 → lv_has ls1 8 [(0, .ref b), (1, .ref (G1.1 0)), (2, .ref (G2.1 0)), (3, .ref o), (4, .int x4)] → W p l e room_1 s m #[Value.ref b] below meth c H1 locs1 cl' sl' Q (F0 m 1029 ls1 [])) : W p l e room_1 s m #[Value.ref b] below meth c H locs cl sl Q (F0 m 140 ls []) := by
  obtain ⟨r, N1, N2, e1, e2, hI⟩ := hG M1 M2 hInv (xs (Int32.toNatClampNeg (x4 + (1 : Int32))))
  refine lv_aload_n hx0 hb d_La_law_140 rfl (lv_at hl 1 rfl) ?_
  refine lv_aload_n hx0 hb d_La_law_141 rfl (lv_at hl 0 rfl) ?_
  refine lv_iload hx0 hb d_La_law_142 (lv_at hl 4 rfl) ?_
  refine lv_iconst (v := (1 : Int32)) hx0 hb d_La_law_144 (by decide) ?_
  refine lv_iadd hx0 hb d_La_law_145 ?_
  refine va_sld hx0 hb hX hbl (Nat.not_le.mpr hbl) hZ.2.2.2.2.2.2.2.2 h1 d_La_law_146 ?_
  refine zl_runC (va_runV (n := 1) (As := [.int (xs (Int32.toNatClampNeg (x4 + (1 : Int32))))]) (rest := []) ⟨hx0, hb, hml, hown, hts⟩ (c_ES_leaf l G1 (xs (Int32.toNatClampNeg (x4 + (1 : Int32)))) M1 (r, N1) e1 H.size) ⟨zcB hts wc_ES_leaf wini_ES wm_La_44 (by decide +kernel) rfl rfl ⟨Nat.le_of_ble_eq_true rfl, Nat.le_of_ble_eq_true rfl⟩, hts _ wi_ES_leaf, hts _ ws_ES_leaf⟩ ⟨zP_blindC, va_recv hZ.2.2.1.1 hZ.2.2.2.2.1 (ci := 6) (q0 := 0) rfl rfl, zl_PC hZ⟩ rfl rfl hl.1 rfl (lv_room (Nat.le_of_ble_eq_true rfl)) d_La_law_147 ⟨Nat.le_trans (by omega : cl + 0 ≤ 20000) (by decide), Nat.le_trans (by omega : sl + 0 ≤ 200000) (by decide)⟩) hZ (fun H locs hZ => ?_)
  refine lv_aload_n hx0 hb d_La_law_150 rfl (lv_at hl 2 rfl) ?_
  refine lv_aload_n hx0 hb d_La_law_151 rfl (lv_at hl 0 rfl) ?_
  refine lv_iload hx0 hb d_La_law_152 (lv_at hl 4 rfl) ?_
  refine lv_iconst (v := (1 : Int32)) hx0 hb d_La_law_154 (by decide) ?_
  refine lv_iadd hx0 hb d_La_law_155 ?_
  refine va_sld hx0 hb hX hbl (Nat.not_le.mpr hbl) hZ.2.2.2.2.2.2.2.2 h1 d_La_law_156 ?_
  refine zl_runT (va_runV (n := 1) (As := [.int (xs (Int32.toNatClampNeg (x4 + (1 : Int32))))]) (rest := [.int r]) ⟨hx0, hb, hml, hown, hts⟩ (c_Md_leaf l G2 (xs (Int32.toNatClampNeg (x4 + (1 : Int32)))) M2 (r, N2) e2 H.size) ⟨zcB hts wc_Md_leaf wini_Md wm_La_48 (by decide +kernel) rfl rfl ⟨Nat.le_of_ble_eq_true rfl, Nat.le_of_ble_eq_true rfl⟩, hts _ wi_Md_leaf, hts _ ws_Md_leaf⟩ ⟨zP_blindT, va_recv hZ.2.2.2.1.1 hZ.2.2.2.2.2.1 (ci := 7) (q0 := 0) rfl rfl, zl_PT hZ⟩ rfl rfl hl.1 rfl (lv_room (Nat.le_of_ble_eq_true rfl)) d_La_law_157 ⟨Nat.le_trans (by omega : cl + 0 ≤ 20000) (by decide), Nat.le_trans (by omega : sl + 0 ≤ 200000) (by decide)⟩) hZ (fun H locs hZ => ?_)
  refine lv_icmp_eq (tgt := 1029) hx0 hb d_La_law_160 (by decide) (fun cc9 => ?_) (fun cc9 => ?_)
  · exact kk _ _ _ _ _ _ _ _ (by omega) (by omega) hI hZ (lv_sub hl [0, 1, 2, 3, 4] rfl)
  · exact absurd rfl cc9
set_option maxHeartbeats 4000000 in
set_option maxRecDepth 100000 in
theorem law_split {p : Program} {l : Launch} {e : Env} {s : State} {m : MethodId} {below : List Frame} {meth : Method} {c : Code} {Q : State → Prop} {H : Heap} {locs : List Loc} {cl sl b L : Nat} {xs : Nat → Int32} {ls : Array Slot} {G1 G2 : zG} {o : Nat} {M1 M2 : Mem} {fo : Nat → Int64} {x4 : Int32} {Inv : Mem → Mem → Prop} (hx0 : p.tables.exec = Jvm.exec) (hb : c.code = code) (hml : c.maxLocals = 8) (hts : ∀ w ∈ zws, w.before #[Value.ref b] s = true) (hown : s.vm.findClass R_La = some m.cls) (hfl : l.flags = pinnedFlags ++ [noTraceFlag]) (hX : va_X b L xs s s.heap) (hbl : b < s.heap.size) (hZX : zX s.heap.size s) (h1 : vp_in (x4 + (1 : Int32)) L) (h2 : vp_in (x4 + (2 : Int32)) L) (h3 : vp_in (x4 + (3 : Int32)) L) (h4 : vp_in (x4 + (4 : Int32)) L) (hcl : cl ≤ 10000) (hsl : sl ≤ 100000) (hZ : ZL G1 G2 o s M1 M2 fo H locs) (hInv : Inv M1 M2) (hl : lv_has ls 8 [(0, .ref b), (1, .ref (G1.1 0)), (2, .ref (G2.1 0)), (3, .ref o), (4, .int x4)]) (hG : Gd_split Inv) (kk : ∀ (cl' sl' : Nat) (N1 N2 : Mem) (fo' : Nat → Int64) (H1 : Heap) (locs1 : List Loc) (ls1 : Array Slot), cl' ≤ cl + 1 → sl' ≤ sl + 6 → Inv N1 N2 → ZL G1 G2 o s N1 N2 fo' H1 locs1 → lv_has ls1 8 [(0, .ref b), (1, .ref (G1.1 0)), (2, .ref (G2.1 0)), (3, .ref o), (4, .int x4)] → W p l e room_1 s m #[Value.ref b] below meth c H1 locs1 cl' sl' Q (F0 m 1029 ls1 [])) : W p l e room_1 s m #[Value.ref b] below meth c H locs cl sl Q (F0 m 165 ls []) := by
  obtain ⟨r, N1, N2, e1, e2, hI⟩ := hG M1 M2 hInv (xs (Int32.toNatClampNeg (x4 + (1 : Int32)))) (xs (Int32.toNatClampNeg (x4 + (2 : Int32)))) (xs (Int32.toNatClampNeg (x4 + (3 : Int32)))) (xs (Int32.toNatClampNeg (x4 + (4 : Int32))))
  refine lv_aload_n hx0 hb d_La_law_165 rfl (lv_at hl 1 rfl) ?_
  refine lv_aload_n hx0 hb d_La_law_166 rfl (lv_at hl 0 rfl) ?_
  refine lv_iload hx0 hb d_La_law_167 (lv_at hl 4 rfl) ?_
  refine lv_iconst (v := (1 : Int32)) hx0 hb d_La_law_169 (by decide) ?_
  refine lv_iadd hx0 hb d_La_law_170 ?_
  refine va_sld hx0 hb hX hbl (Nat.not_le.mpr hbl) hZ.2.2.2.2.2.2.2.2 h1 d_La_law_171 ?_
  refine lv_aload_n hx0 hb d_La_law_172 rfl (lv_at hl 0 rfl) ?_
  refine lv_iload hx0 hb d_La_law_173 (lv_at hl 4 rfl) ?_
  refine lv_iconst (v := (2 : Int32)) hx0 hb d_La_law_175 (by decide) ?_
  refine lv_iadd hx0 hb d_La_law_176 ?_
  refine va_sld hx0 hb hX hbl (Nat.not_le.mpr hbl) hZ.2.2.2.2.2.2.2.2 h2 d_La_law_177 ?_
  refine lv_aload_n hx0 hb d_La_law_178 rfl (lv_at hl 0 rfl) ?_
  refine lv_iload hx0 hb d_La_law_179 (lv_at hl 4 rfl) ?_
  refine lv_iconst (v := (3 : Int32)) hx0 hb d_La_law_181 (by decide) ?_
  refine lv_iadd hx0 hb d_La_law_182 ?_
  refine va_sld hx0 hb hX hbl (Nat.not_le.mpr hbl) hZ.2.2.2.2.2.2.2.2 h3 d_La_law_183 ?_
  refine lv_aload_n hx0 hb d_La_law_184 rfl (lv_at hl 0 rfl) ?_
  refine lv_iload hx0 hb d_La_law_185 (lv_at hl 4 rfl) ?_
  refine lv_iconst (v := (4 : Int32)) hx0 hb d_La_law_187 (by decide) ?_
  refine lv_iadd hx0 hb d_La_law_188 ?_
  refine va_sld hx0 hb hX hbl (Nat.not_le.mpr hbl) hZ.2.2.2.2.2.2.2.2 h4 d_La_law_189 ?_
  refine zl_runC (va_runV (n := 4) (As := [.int (xs (Int32.toNatClampNeg (x4 + (1 : Int32)))), .int (xs (Int32.toNatClampNeg (x4 + (2 : Int32)))), .int (xs (Int32.toNatClampNeg (x4 + (3 : Int32)))), .int (xs (Int32.toNatClampNeg (x4 + (4 : Int32))))]) (rest := []) ⟨hx0, hb, hml, hown, hts⟩ (c_ES_split l G1 (xs (Int32.toNatClampNeg (x4 + (1 : Int32)))) (xs (Int32.toNatClampNeg (x4 + (2 : Int32)))) (xs (Int32.toNatClampNeg (x4 + (3 : Int32)))) (xs (Int32.toNatClampNeg (x4 + (4 : Int32)))) M1 (r, N1) e1 H.size) ⟨zcB hts wc_ES_split wini_ES wm_La_49 (by decide +kernel) rfl rfl ⟨Nat.le_of_ble_eq_true rfl, Nat.le_of_ble_eq_true rfl⟩, hts _ wi_ES_split, hts _ ws_ES_split⟩ ⟨zP_blindC, va_recv hZ.2.2.1.1 hZ.2.2.2.2.1 (ci := 6) (q0 := 0) rfl rfl, zl_PC hZ⟩ rfl rfl hl.1 rfl (lv_room (Nat.le_of_ble_eq_true rfl)) d_La_law_190 ⟨Nat.le_trans (by omega : cl + 0 ≤ 20000) (by decide), Nat.le_trans (by omega : sl + 0 ≤ 200000) (by decide)⟩) hZ (fun H locs hZ => ?_)
  refine lv_aload_n hx0 hb d_La_law_193 rfl (lv_at hl 2 rfl) ?_
  refine lv_aload_n hx0 hb d_La_law_194 rfl (lv_at hl 0 rfl) ?_
  refine lv_iload hx0 hb d_La_law_195 (lv_at hl 4 rfl) ?_
  refine lv_iconst (v := (1 : Int32)) hx0 hb d_La_law_197 (by decide) ?_
  refine lv_iadd hx0 hb d_La_law_198 ?_
  refine va_sld hx0 hb hX hbl (Nat.not_le.mpr hbl) hZ.2.2.2.2.2.2.2.2 h1 d_La_law_199 ?_
  refine lv_aload_n hx0 hb d_La_law_200 rfl (lv_at hl 0 rfl) ?_
  refine lv_iload hx0 hb d_La_law_201 (lv_at hl 4 rfl) ?_
  refine lv_iconst (v := (2 : Int32)) hx0 hb d_La_law_203 (by decide) ?_
  refine lv_iadd hx0 hb d_La_law_204 ?_
  refine va_sld hx0 hb hX hbl (Nat.not_le.mpr hbl) hZ.2.2.2.2.2.2.2.2 h2 d_La_law_205 ?_
  refine lv_aload_n hx0 hb d_La_law_206 rfl (lv_at hl 0 rfl) ?_
  refine lv_iload hx0 hb d_La_law_207 (lv_at hl 4 rfl) ?_
  refine lv_iconst (v := (3 : Int32)) hx0 hb d_La_law_209 (by decide) ?_
  refine lv_iadd hx0 hb d_La_law_210 ?_
  refine va_sld hx0 hb hX hbl (Nat.not_le.mpr hbl) hZ.2.2.2.2.2.2.2.2 h3 d_La_law_211 ?_
  refine lv_aload_n hx0 hb d_La_law_212 rfl (lv_at hl 0 rfl) ?_
  refine lv_iload hx0 hb d_La_law_213 (lv_at hl 4 rfl) ?_
  refine lv_iconst (v := (4 : Int32)) hx0 hb d_La_law_215 (by decide) ?_
  refine lv_iadd hx0 hb d_La_law_216 ?_
  refine va_sld hx0 hb hX hbl (Nat.not_le.mpr hbl) hZ.2.2.2.2.2.2.2.2 h4 d_La_law_217 ?_
  refine zl_runT (va_runV (n := 4) (As := [.int (xs (Int32.toNatClampNeg (x4 + (1 : Int32)))), .int (xs (Int32.toNatClampNeg (x4 + (2 : Int32)))), .int (xs (Int32.toNatClampNeg (x4 + (3 : Int32)))), .int (xs (Int32.toNatClampNeg (x4 + (4 : Int32))))]) (rest := [.int r]) ⟨hx0, hb, hml, hown, hts⟩ (c_Md_split l G2 (xs (Int32.toNatClampNeg (x4 + (1 : Int32)))) (xs (Int32.toNatClampNeg (x4 + (2 : Int32)))) (xs (Int32.toNatClampNeg (x4 + (3 : Int32)))) (xs (Int32.toNatClampNeg (x4 + (4 : Int32)))) M2 (r, N2) e2 H.size) ⟨zcB hts wc_Md_split wini_Md wm_La_53 (by decide +kernel) rfl rfl ⟨Nat.le_of_ble_eq_true rfl, Nat.le_of_ble_eq_true rfl⟩, hts _ wi_Md_split, hts _ ws_Md_split⟩ ⟨zP_blindT, va_recv hZ.2.2.2.1.1 hZ.2.2.2.2.2.1 (ci := 7) (q0 := 0) rfl rfl, zl_PT hZ⟩ rfl rfl hl.1 rfl (lv_room (Nat.le_of_ble_eq_true rfl)) d_La_law_218 ⟨Nat.le_trans (by omega : cl + 0 ≤ 20000) (by decide), Nat.le_trans (by omega : sl + 0 ≤ 200000) (by decide)⟩) hZ (fun H locs hZ => ?_)
  refine lv_icmp_eq (tgt := 1029) hx0 hb d_La_law_221 (by decide) (fun cc9 => ?_) (fun cc9 => ?_)
  · exact kk _ _ _ _ _ _ _ _ (by omega) (by omega) hI hZ (lv_sub hl [0, 1, 2, 3, 4] rfl)
  · exact absurd rfl cc9
set_option maxHeartbeats 4000000 in
set_option maxRecDepth 100000 in
theorem law_root {p : Program} {l : Launch} {e : Env} {s : State} {m : MethodId} {below : List Frame} {meth : Method} {c : Code} {Q : State → Prop} {H : Heap} {locs : List Loc} {cl sl b L : Nat} {xs : Nat → Int32} {ls : Array Slot} {G1 G2 : zG} {o : Nat} {M1 M2 : Mem} {fo : Nat → Int64} {x4 : Int32} {Inv : Mem → Mem → Prop} (hx0 : p.tables.exec = Jvm.exec) (hb : c.code = code) (hml : c.maxLocals = 8) (hts : ∀ w ∈ zws, w.before #[Value.ref b] s = true) (hown : s.vm.findClass R_La = some m.cls) (hfl : l.flags = pinnedFlags ++ [noTraceFlag]) (hX : va_X b L xs s s.heap) (hbl : b < s.heap.size) (hZX : zX s.heap.size s) (h1 : vp_in (x4 + (1 : Int32)) L) (h2 : vp_in (x4 + (2 : Int32)) L) (h3 : vp_in (x4 + (3 : Int32)) L) (h4 : vp_in (x4 + (4 : Int32)) L) (hcl : cl ≤ 10000) (hsl : sl ≤ 100000) (hZ : ZL G1 G2 o s M1 M2 fo H locs) (hInv : Inv M1 M2) (hl : lv_has ls 8 [(0, .ref b), (1, .ref (G1.1 0)), (2, .ref (G2.1 0)), (3, .ref o), (4, .int x4)]) (hG : Gd_root Inv) (kk : ∀ (cl' sl' : Nat) (N1 N2 : Mem) (fo' : Nat → Int64) (H1 : Heap) (locs1 : List Loc) (ls1 : Array Slot), cl' ≤ cl + 1 → sl' ≤ sl + 6 → Inv N1 N2 → ZL G1 G2 o s N1 N2 fo' H1 locs1 → lv_has ls1 8 [(0, .ref b), (1, .ref (G1.1 0)), (2, .ref (G2.1 0)), (3, .ref o), (4, .int x4)] → W p l e room_1 s m #[Value.ref b] below meth c H1 locs1 cl' sl' Q (F0 m 1029 ls1 [])) : W p l e room_1 s m #[Value.ref b] below meth c H locs cl sl Q (F0 m 226 ls []) := by
  obtain ⟨r, N1, N2, e1, e2, hI⟩ := hG M1 M2 hInv (xs (Int32.toNatClampNeg (x4 + (1 : Int32))))
  refine lv_aload_n hx0 hb d_La_law_226 rfl (lv_at hl 1 rfl) ?_
  refine lv_aload_n hx0 hb d_La_law_227 rfl (lv_at hl 0 rfl) ?_
  refine lv_iload hx0 hb d_La_law_228 (lv_at hl 4 rfl) ?_
  refine lv_iconst (v := (1 : Int32)) hx0 hb d_La_law_230 (by decide) ?_
  refine lv_iadd hx0 hb d_La_law_231 ?_
  refine va_sld hx0 hb hX hbl (Nat.not_le.mpr hbl) hZ.2.2.2.2.2.2.2.2 h1 d_La_law_232 ?_
  refine zl_runC (va_runV (n := 1) (As := [.int (xs (Int32.toNatClampNeg (x4 + (1 : Int32))))]) (rest := []) ⟨hx0, hb, hml, hown, hts⟩ (c_ES_root l G1 (xs (Int32.toNatClampNeg (x4 + (1 : Int32)))) M1 (r, N1) e1 H.size) ⟨zcB hts wc_ES_root wini_ES wm_La_54 (by decide +kernel) rfl rfl ⟨Nat.le_of_ble_eq_true rfl, Nat.le_of_ble_eq_true rfl⟩, hts _ wi_ES_root, hts _ ws_ES_root⟩ ⟨zP_blindC, va_recv hZ.2.2.1.1 hZ.2.2.2.2.1 (ci := 6) (q0 := 0) rfl rfl, zl_PC hZ⟩ rfl rfl hl.1 rfl (lv_room (Nat.le_of_ble_eq_true rfl)) d_La_law_233 ⟨Nat.le_trans (by omega : cl + 0 ≤ 20000) (by decide), Nat.le_trans (by omega : sl + 0 ≤ 200000) (by decide)⟩) hZ (fun H locs hZ => ?_)
  refine lv_aload_n hx0 hb d_La_law_236 rfl (lv_at hl 2 rfl) ?_
  refine lv_aload_n hx0 hb d_La_law_237 rfl (lv_at hl 0 rfl) ?_
  refine lv_iload hx0 hb d_La_law_238 (lv_at hl 4 rfl) ?_
  refine lv_iconst (v := (1 : Int32)) hx0 hb d_La_law_240 (by decide) ?_
  refine lv_iadd hx0 hb d_La_law_241 ?_
  refine va_sld hx0 hb hX hbl (Nat.not_le.mpr hbl) hZ.2.2.2.2.2.2.2.2 h1 d_La_law_242 ?_
  refine zl_runT (va_runV (n := 1) (As := [.int (xs (Int32.toNatClampNeg (x4 + (1 : Int32))))]) (rest := [.int r]) ⟨hx0, hb, hml, hown, hts⟩ (c_Md_root l G2 (xs (Int32.toNatClampNeg (x4 + (1 : Int32)))) M2 (r, N2) e2 H.size) ⟨zcB hts wc_Md_root wini_Md wm_La_57 (by decide +kernel) rfl rfl ⟨Nat.le_of_ble_eq_true rfl, Nat.le_of_ble_eq_true rfl⟩, hts _ wi_Md_root, hts _ ws_Md_root⟩ ⟨zP_blindT, va_recv hZ.2.2.2.1.1 hZ.2.2.2.2.2.1 (ci := 7) (q0 := 0) rfl rfl, zl_PT hZ⟩ rfl rfl hl.1 rfl (lv_room (Nat.le_of_ble_eq_true rfl)) d_La_law_243 ⟨Nat.le_trans (by omega : cl + 0 ≤ 20000) (by decide), Nat.le_trans (by omega : sl + 0 ≤ 200000) (by decide)⟩) hZ (fun H locs hZ => ?_)
  refine lv_icmp_eq (tgt := 1029) hx0 hb d_La_law_246 (by decide) (fun cc9 => ?_) (fun cc9 => ?_)
  · exact kk _ _ _ _ _ _ _ _ (by omega) (by omega) hI hZ (lv_sub hl [0, 1, 2, 3, 4] rfl)
  · exact absurd rfl cc9
set_option maxHeartbeats 4000000 in
set_option maxRecDepth 100000 in
theorem law_weight {p : Program} {l : Launch} {e : Env} {s : State} {m : MethodId} {below : List Frame} {meth : Method} {c : Code} {Q : State → Prop} {H : Heap} {locs : List Loc} {cl sl b L : Nat} {xs : Nat → Int32} {ls : Array Slot} {G1 G2 : zG} {o : Nat} {M1 M2 : Mem} {fo : Nat → Int64} {x4 : Int32} {Inv : Mem → Mem → Prop} (hx0 : p.tables.exec = Jvm.exec) (hb : c.code = code) (hml : c.maxLocals = 8) (hts : ∀ w ∈ zws, w.before #[Value.ref b] s = true) (hown : s.vm.findClass R_La = some m.cls) (hfl : l.flags = pinnedFlags ++ [noTraceFlag]) (hX : va_X b L xs s s.heap) (hbl : b < s.heap.size) (hZX : zX s.heap.size s) (h1 : vp_in (x4 + (1 : Int32)) L) (h2 : vp_in (x4 + (2 : Int32)) L) (h3 : vp_in (x4 + (3 : Int32)) L) (h4 : vp_in (x4 + (4 : Int32)) L) (hcl : cl ≤ 10000) (hsl : sl ≤ 100000) (hZ : ZL G1 G2 o s M1 M2 fo H locs) (hInv : Inv M1 M2) (hl : lv_has ls 8 [(0, .ref b), (1, .ref (G1.1 0)), (2, .ref (G2.1 0)), (3, .ref o), (4, .int x4)]) (hG : Gd_weight Inv) (kk : ∀ (cl' sl' : Nat) (N1 N2 : Mem) (fo' : Nat → Int64) (H1 : Heap) (locs1 : List Loc) (ls1 : Array Slot), cl' ≤ cl + 1 → sl' ≤ sl + 6 → Inv N1 N2 → ZL G1 G2 o s N1 N2 fo' H1 locs1 → lv_has ls1 8 [(0, .ref b), (1, .ref (G1.1 0)), (2, .ref (G2.1 0)), (3, .ref o), (4, .int x4)] → W p l e room_1 s m #[Value.ref b] below meth c H1 locs1 cl' sl' Q (F0 m 1029 ls1 [])) : W p l e room_1 s m #[Value.ref b] below meth c H locs cl sl Q (F0 m 251 ls []) := by
  obtain ⟨r, N1, N2, e1, e2, hI⟩ := hG M1 M2 hInv (xs (Int32.toNatClampNeg (x4 + (1 : Int32)))) (xs (Int32.toNatClampNeg (x4 + (2 : Int32))))
  refine lv_aload_n hx0 hb d_La_law_251 rfl (lv_at hl 1 rfl) ?_
  refine lv_aload_n hx0 hb d_La_law_252 rfl (lv_at hl 0 rfl) ?_
  refine lv_iload hx0 hb d_La_law_253 (lv_at hl 4 rfl) ?_
  refine lv_iconst (v := (1 : Int32)) hx0 hb d_La_law_255 (by decide) ?_
  refine lv_iadd hx0 hb d_La_law_256 ?_
  refine va_sld hx0 hb hX hbl (Nat.not_le.mpr hbl) hZ.2.2.2.2.2.2.2.2 h1 d_La_law_257 ?_
  refine lv_aload_n hx0 hb d_La_law_258 rfl (lv_at hl 0 rfl) ?_
  refine lv_iload hx0 hb d_La_law_259 (lv_at hl 4 rfl) ?_
  refine lv_iconst (v := (2 : Int32)) hx0 hb d_La_law_261 (by decide) ?_
  refine lv_iadd hx0 hb d_La_law_262 ?_
  refine va_sld hx0 hb hX hbl (Nat.not_le.mpr hbl) hZ.2.2.2.2.2.2.2.2 h2 d_La_law_263 ?_
  refine zl_runC (va_runV (n := 2) (As := [.int (xs (Int32.toNatClampNeg (x4 + (1 : Int32)))), .int (xs (Int32.toNatClampNeg (x4 + (2 : Int32))))]) (rest := []) ⟨hx0, hb, hml, hown, hts⟩ (c_ES_weight l G1 (xs (Int32.toNatClampNeg (x4 + (1 : Int32)))) (xs (Int32.toNatClampNeg (x4 + (2 : Int32)))) M1 (r, N1) e1 H.size) ⟨zcB hts wc_ES_weight wini_ES wm_La_58 (by decide +kernel) rfl rfl ⟨Nat.le_of_ble_eq_true rfl, Nat.le_of_ble_eq_true rfl⟩, hts _ wi_ES_weight, hts _ ws_ES_weight⟩ ⟨zP_blindC, va_recv hZ.2.2.1.1 hZ.2.2.2.2.1 (ci := 6) (q0 := 0) rfl rfl, zl_PC hZ⟩ rfl rfl hl.1 rfl (lv_room (Nat.le_of_ble_eq_true rfl)) d_La_law_264 ⟨Nat.le_trans (by omega : cl + 0 ≤ 20000) (by decide), Nat.le_trans (by omega : sl + 0 ≤ 200000) (by decide)⟩) hZ (fun H locs hZ => ?_)
  refine lv_aload_n hx0 hb d_La_law_267 rfl (lv_at hl 2 rfl) ?_
  refine lv_aload_n hx0 hb d_La_law_268 rfl (lv_at hl 0 rfl) ?_
  refine lv_iload hx0 hb d_La_law_269 (lv_at hl 4 rfl) ?_
  refine lv_iconst (v := (1 : Int32)) hx0 hb d_La_law_271 (by decide) ?_
  refine lv_iadd hx0 hb d_La_law_272 ?_
  refine va_sld hx0 hb hX hbl (Nat.not_le.mpr hbl) hZ.2.2.2.2.2.2.2.2 h1 d_La_law_273 ?_
  refine lv_aload_n hx0 hb d_La_law_274 rfl (lv_at hl 0 rfl) ?_
  refine lv_iload hx0 hb d_La_law_275 (lv_at hl 4 rfl) ?_
  refine lv_iconst (v := (2 : Int32)) hx0 hb d_La_law_277 (by decide) ?_
  refine lv_iadd hx0 hb d_La_law_278 ?_
  refine va_sld hx0 hb hX hbl (Nat.not_le.mpr hbl) hZ.2.2.2.2.2.2.2.2 h2 d_La_law_279 ?_
  refine zl_runT (va_runV (n := 2) (As := [.int (xs (Int32.toNatClampNeg (x4 + (1 : Int32)))), .int (xs (Int32.toNatClampNeg (x4 + (2 : Int32))))]) (rest := [.int r]) ⟨hx0, hb, hml, hown, hts⟩ (c_Md_weight l G2 (xs (Int32.toNatClampNeg (x4 + (1 : Int32)))) (xs (Int32.toNatClampNeg (x4 + (2 : Int32)))) M2 (r, N2) e2 H.size) ⟨zcB hts wc_Md_weight wini_Md wm_La_62 (by decide +kernel) rfl rfl ⟨Nat.le_of_ble_eq_true rfl, Nat.le_of_ble_eq_true rfl⟩, hts _ wi_Md_weight, hts _ ws_Md_weight⟩ ⟨zP_blindT, va_recv hZ.2.2.2.1.1 hZ.2.2.2.2.2.1 (ci := 7) (q0 := 0) rfl rfl, zl_PT hZ⟩ rfl rfl hl.1 rfl (lv_room (Nat.le_of_ble_eq_true rfl)) d_La_law_280 ⟨Nat.le_trans (by omega : cl + 0 ≤ 20000) (by decide), Nat.le_trans (by omega : sl + 0 ≤ 200000) (by decide)⟩) hZ (fun H locs hZ => ?_)
  refine lv_icmp_eq (tgt := 1029) hx0 hb d_La_law_283 (by decide) (fun cc9 => ?_) (fun cc9 => ?_)
  · exact kk _ _ _ _ _ _ _ _ (by omega) (by omega) hI hZ (lv_sub hl [0, 1, 2, 3, 4] rfl)
  · exact absurd rfl cc9
set_option maxHeartbeats 4000000 in
set_option maxRecDepth 100000 in
theorem law_clear {p : Program} {l : Launch} {e : Env} {s : State} {m : MethodId} {below : List Frame} {meth : Method} {c : Code} {Q : State → Prop} {H : Heap} {locs : List Loc} {cl sl b L : Nat} {xs : Nat → Int32} {ls : Array Slot} {G1 G2 : zG} {o : Nat} {M1 M2 : Mem} {fo : Nat → Int64} {x4 : Int32} {Inv : Mem → Mem → Prop} (hx0 : p.tables.exec = Jvm.exec) (hb : c.code = code) (hml : c.maxLocals = 8) (hts : ∀ w ∈ zws, w.before #[Value.ref b] s = true) (hown : s.vm.findClass R_La = some m.cls) (hfl : l.flags = pinnedFlags ++ [noTraceFlag]) (hX : va_X b L xs s s.heap) (hbl : b < s.heap.size) (hZX : zX s.heap.size s) (h1 : vp_in (x4 + (1 : Int32)) L) (h2 : vp_in (x4 + (2 : Int32)) L) (h3 : vp_in (x4 + (3 : Int32)) L) (h4 : vp_in (x4 + (4 : Int32)) L) (hcl : cl ≤ 10000) (hsl : sl ≤ 100000) (hZ : ZL G1 G2 o s M1 M2 fo H locs) (hInv : Inv M1 M2) (hl : lv_has ls 8 [(0, .ref b), (1, .ref (G1.1 0)), (2, .ref (G2.1 0)), (3, .ref o), (4, .int x4)]) (hG : Gd_clear Inv) (kk : ∀ (cl' sl' : Nat) (N1 N2 : Mem) (fo' : Nat → Int64) (H1 : Heap) (locs1 : List Loc) (ls1 : Array Slot), cl' ≤ cl + 1 → sl' ≤ sl + 6 → Inv N1 N2 → ZL G1 G2 o s N1 N2 fo' H1 locs1 → lv_has ls1 8 [(0, .ref b), (1, .ref (G1.1 0)), (2, .ref (G2.1 0)), (3, .ref o), (4, .int x4)] → W p l e room_1 s m #[Value.ref b] below meth c H1 locs1 cl' sl' Q (F0 m 1029 ls1 [])) : W p l e room_1 s m #[Value.ref b] below meth c H locs cl sl Q (F0 m 288 ls []) := by
  obtain ⟨r, N1, N2, e1, e2, hI⟩ := hG M1 M2 hInv 
  refine lv_aload_n hx0 hb d_La_law_288 rfl (lv_at hl 1 rfl) ?_
  refine zl_runC (va_runV (n := 0) (As := []) (rest := []) ⟨hx0, hb, hml, hown, hts⟩ (c_ES_clear l G1  M1 (r, N1) e1 H.size) ⟨zcB hts wc_ES_clear wini_ES wm_La_63 (by decide +kernel) rfl rfl ⟨Nat.le_of_ble_eq_true rfl, Nat.le_of_ble_eq_true rfl⟩, hts _ wi_ES_clear, hts _ ws_ES_clear⟩ ⟨zP_blindC, va_recv hZ.2.2.1.1 hZ.2.2.2.2.1 (ci := 6) (q0 := 0) rfl rfl, zl_PC hZ⟩ rfl rfl hl.1 rfl (lv_room (Nat.le_of_ble_eq_true rfl)) d_La_law_289 ⟨Nat.le_trans (by omega : cl + 0 ≤ 20000) (by decide), Nat.le_trans (by omega : sl + 0 ≤ 200000) (by decide)⟩) hZ (fun H locs hZ => ?_)
  refine lv_aload_n hx0 hb d_La_law_292 rfl (lv_at hl 2 rfl) ?_
  refine zl_runT (va_runV (n := 0) (As := []) (rest := [.int r]) ⟨hx0, hb, hml, hown, hts⟩ (c_Md_clear l G2  M2 (r, N2) e2 H.size) ⟨zcB hts wc_Md_clear wini_Md wm_La_67 (by decide +kernel) rfl rfl ⟨Nat.le_of_ble_eq_true rfl, Nat.le_of_ble_eq_true rfl⟩, hts _ wi_Md_clear, hts _ ws_Md_clear⟩ ⟨zP_blindT, va_recv hZ.2.2.2.1.1 hZ.2.2.2.2.2.1 (ci := 7) (q0 := 0) rfl rfl, zl_PT hZ⟩ rfl rfl hl.1 rfl (lv_room (Nat.le_of_ble_eq_true rfl)) d_La_law_293 ⟨Nat.le_trans (by omega : cl + 0 ≤ 20000) (by decide), Nat.le_trans (by omega : sl + 0 ≤ 200000) (by decide)⟩) hZ (fun H locs hZ => ?_)
  refine lv_icmp_eq (tgt := 1029) hx0 hb d_La_law_296 (by decide) (fun cc9 => ?_) (fun cc9 => ?_)
  · exact kk _ _ _ _ _ _ _ _ (by omega) (by omega) hI hZ (lv_sub hl [0, 1, 2, 3, 4] rfl)
  · exact absurd rfl cc9
set_option maxHeartbeats 4000000 in
set_option maxRecDepth 100000 in
theorem law_background {p : Program} {l : Launch} {e : Env} {s : State} {m : MethodId} {below : List Frame} {meth : Method} {c : Code} {Q : State → Prop} {H : Heap} {locs : List Loc} {cl sl b L : Nat} {xs : Nat → Int32} {ls : Array Slot} {G1 G2 : zG} {o : Nat} {M1 M2 : Mem} {fo : Nat → Int64} {x4 : Int32} {Inv : Mem → Mem → Prop} (hx0 : p.tables.exec = Jvm.exec) (hb : c.code = code) (hml : c.maxLocals = 8) (hts : ∀ w ∈ zws, w.before #[Value.ref b] s = true) (hown : s.vm.findClass R_La = some m.cls) (hfl : l.flags = pinnedFlags ++ [noTraceFlag]) (hX : va_X b L xs s s.heap) (hbl : b < s.heap.size) (hZX : zX s.heap.size s) (h1 : vp_in (x4 + (1 : Int32)) L) (h2 : vp_in (x4 + (2 : Int32)) L) (h3 : vp_in (x4 + (3 : Int32)) L) (h4 : vp_in (x4 + (4 : Int32)) L) (hcl : cl ≤ 10000) (hsl : sl ≤ 100000) (hZ : ZL G1 G2 o s M1 M2 fo H locs) (hInv : Inv M1 M2) (hl : lv_has ls 8 [(0, .ref b), (1, .ref (G1.1 0)), (2, .ref (G2.1 0)), (3, .ref o), (4, .int x4)]) (hG : Gd_background Inv) (kk : ∀ (cl' sl' : Nat) (N1 N2 : Mem) (fo' : Nat → Int64) (H1 : Heap) (locs1 : List Loc) (ls1 : Array Slot), cl' ≤ cl + 1 → sl' ≤ sl + 6 → Inv N1 N2 → ZL G1 G2 o s N1 N2 fo' H1 locs1 → lv_has ls1 8 [(0, .ref b), (1, .ref (G1.1 0)), (2, .ref (G2.1 0)), (3, .ref o), (4, .int x4)] → W p l e room_1 s m #[Value.ref b] below meth c H1 locs1 cl' sl' Q (F0 m 1029 ls1 [])) : W p l e room_1 s m #[Value.ref b] below meth c H locs cl sl Q (F0 m 301 ls []) := by
  obtain ⟨r, N1, N2, e1, e2, hI⟩ := hG M1 M2 hInv 
  refine lv_aload_n hx0 hb d_La_law_301 rfl (lv_at hl 1 rfl) ?_
  refine zl_runC (va_runV (n := 0) (As := []) (rest := []) ⟨hx0, hb, hml, hown, hts⟩ (c_ES_background l G1  M1 (r, N1) e1 H.size) ⟨zcB hts wc_ES_background wini_ES wm_La_68 (by decide +kernel) rfl rfl ⟨Nat.le_of_ble_eq_true rfl, Nat.le_of_ble_eq_true rfl⟩, hts _ wi_ES_background, hts _ ws_ES_background⟩ ⟨zP_blindC, va_recv hZ.2.2.1.1 hZ.2.2.2.2.1 (ci := 6) (q0 := 0) rfl rfl, zl_PC hZ⟩ rfl rfl hl.1 rfl (lv_room (Nat.le_of_ble_eq_true rfl)) d_La_law_302 ⟨Nat.le_trans (by omega : cl + 0 ≤ 20000) (by decide), Nat.le_trans (by omega : sl + 0 ≤ 200000) (by decide)⟩) hZ (fun H locs hZ => ?_)
  refine lv_aload_n hx0 hb d_La_law_305 rfl (lv_at hl 2 rfl) ?_
  refine zl_runT (va_runV (n := 0) (As := []) (rest := [.int r]) ⟨hx0, hb, hml, hown, hts⟩ (c_Md_background l G2  M2 (r, N2) e2 H.size) ⟨zcB hts wc_Md_background wini_Md wm_La_71 (by decide +kernel) rfl rfl ⟨Nat.le_of_ble_eq_true rfl, Nat.le_of_ble_eq_true rfl⟩, hts _ wi_Md_background, hts _ ws_Md_background⟩ ⟨zP_blindT, va_recv hZ.2.2.2.1.1 hZ.2.2.2.2.2.1 (ci := 7) (q0 := 0) rfl rfl, zl_PT hZ⟩ rfl rfl hl.1 rfl (lv_room (Nat.le_of_ble_eq_true rfl)) d_La_law_306 ⟨Nat.le_trans (by omega : cl + 0 ≤ 20000) (by decide), Nat.le_trans (by omega : sl + 0 ≤ 200000) (by decide)⟩) hZ (fun H locs hZ => ?_)
  refine lv_icmp_eq (tgt := 1029) hx0 hb d_La_law_309 (by decide) (fun cc9 => ?_) (fun cc9 => ?_)
  · exact kk _ _ _ _ _ _ _ _ (by omega) (by omega) hI hZ (lv_sub hl [0, 1, 2, 3, 4] rfl)
  · exact absurd rfl cc9
set_option maxHeartbeats 4000000 in
set_option maxRecDepth 100000 in
theorem law_item {p : Program} {l : Launch} {e : Env} {s : State} {m : MethodId} {below : List Frame} {meth : Method} {c : Code} {Q : State → Prop} {H : Heap} {locs : List Loc} {cl sl b L : Nat} {xs : Nat → Int32} {ls : Array Slot} {G1 G2 : zG} {o : Nat} {M1 M2 : Mem} {fo : Nat → Int64} {x4 : Int32} {Inv : Mem → Mem → Prop} (hx0 : p.tables.exec = Jvm.exec) (hb : c.code = code) (hml : c.maxLocals = 8) (hts : ∀ w ∈ zws, w.before #[Value.ref b] s = true) (hown : s.vm.findClass R_La = some m.cls) (hfl : l.flags = pinnedFlags ++ [noTraceFlag]) (hX : va_X b L xs s s.heap) (hbl : b < s.heap.size) (hZX : zX s.heap.size s) (h1 : vp_in (x4 + (1 : Int32)) L) (h2 : vp_in (x4 + (2 : Int32)) L) (h3 : vp_in (x4 + (3 : Int32)) L) (h4 : vp_in (x4 + (4 : Int32)) L) (hcl : cl ≤ 10000) (hsl : sl ≤ 100000) (hZ : ZL G1 G2 o s M1 M2 fo H locs) (hInv : Inv M1 M2) (hl : lv_has ls 8 [(0, .ref b), (1, .ref (G1.1 0)), (2, .ref (G2.1 0)), (3, .ref o), (4, .int x4)]) (hG : Gd_item Inv) (kk : ∀ (cl' sl' : Nat) (N1 N2 : Mem) (fo' : Nat → Int64) (H1 : Heap) (locs1 : List Loc) (ls1 : Array Slot), cl' ≤ cl + 1 → sl' ≤ sl + 6 → Inv N1 N2 → ZL G1 G2 o s N1 N2 fo' H1 locs1 → lv_has ls1 8 [(0, .ref b), (1, .ref (G1.1 0)), (2, .ref (G2.1 0)), (3, .ref o), (4, .int x4)] → W p l e room_1 s m #[Value.ref b] below meth c H1 locs1 cl' sl' Q (F0 m 1029 ls1 [])) : W p l e room_1 s m #[Value.ref b] below meth c H locs cl sl Q (F0 m 314 ls []) := by
  obtain ⟨r, N1, N2, e1, e2, hI⟩ := hG M1 M2 hInv (xs (Int32.toNatClampNeg (x4 + (1 : Int32)))) (xs (Int32.toNatClampNeg (x4 + (2 : Int32)))) (xs (Int32.toNatClampNeg (x4 + (3 : Int32))))
  refine lv_aload_n hx0 hb d_La_law_314 rfl (lv_at hl 1 rfl) ?_
  refine lv_aload_n hx0 hb d_La_law_315 rfl (lv_at hl 0 rfl) ?_
  refine lv_iload hx0 hb d_La_law_316 (lv_at hl 4 rfl) ?_
  refine lv_iconst (v := (1 : Int32)) hx0 hb d_La_law_318 (by decide) ?_
  refine lv_iadd hx0 hb d_La_law_319 ?_
  refine va_sld hx0 hb hX hbl (Nat.not_le.mpr hbl) hZ.2.2.2.2.2.2.2.2 h1 d_La_law_320 ?_
  refine lv_aload_n hx0 hb d_La_law_321 rfl (lv_at hl 0 rfl) ?_
  refine lv_iload hx0 hb d_La_law_322 (lv_at hl 4 rfl) ?_
  refine lv_iconst (v := (2 : Int32)) hx0 hb d_La_law_324 (by decide) ?_
  refine lv_iadd hx0 hb d_La_law_325 ?_
  refine va_sld hx0 hb hX hbl (Nat.not_le.mpr hbl) hZ.2.2.2.2.2.2.2.2 h2 d_La_law_326 ?_
  refine lv_aload_n hx0 hb d_La_law_327 rfl (lv_at hl 0 rfl) ?_
  refine lv_iload hx0 hb d_La_law_328 (lv_at hl 4 rfl) ?_
  refine lv_iconst (v := (3 : Int32)) hx0 hb d_La_law_330 (by decide) ?_
  refine lv_iadd hx0 hb d_La_law_331 ?_
  refine va_sld hx0 hb hX hbl (Nat.not_le.mpr hbl) hZ.2.2.2.2.2.2.2.2 h3 d_La_law_332 ?_
  refine zl_runC (va_runV (n := 3) (As := [.int (xs (Int32.toNatClampNeg (x4 + (1 : Int32)))), .int (xs (Int32.toNatClampNeg (x4 + (2 : Int32)))), .int (xs (Int32.toNatClampNeg (x4 + (3 : Int32))))]) (rest := []) ⟨hx0, hb, hml, hown, hts⟩ (c_ES_item l G1 (xs (Int32.toNatClampNeg (x4 + (1 : Int32)))) (xs (Int32.toNatClampNeg (x4 + (2 : Int32)))) (xs (Int32.toNatClampNeg (x4 + (3 : Int32)))) M1 (r, N1) e1 H.size) ⟨zcB hts wc_ES_item wini_ES wm_La_72 (by decide +kernel) rfl rfl ⟨Nat.le_of_ble_eq_true rfl, Nat.le_of_ble_eq_true rfl⟩, hts _ wi_ES_item, hts _ ws_ES_item⟩ ⟨zP_blindC, va_recv hZ.2.2.1.1 hZ.2.2.2.2.1 (ci := 6) (q0 := 0) rfl rfl, zl_PC hZ⟩ rfl rfl hl.1 rfl (lv_room (Nat.le_of_ble_eq_true rfl)) d_La_law_333 ⟨Nat.le_trans (by omega : cl + 0 ≤ 20000) (by decide), Nat.le_trans (by omega : sl + 0 ≤ 200000) (by decide)⟩) hZ (fun H locs hZ => ?_)
  refine lv_aload_n hx0 hb d_La_law_336 rfl (lv_at hl 2 rfl) ?_
  refine lv_aload_n hx0 hb d_La_law_337 rfl (lv_at hl 0 rfl) ?_
  refine lv_iload hx0 hb d_La_law_338 (lv_at hl 4 rfl) ?_
  refine lv_iconst (v := (1 : Int32)) hx0 hb d_La_law_340 (by decide) ?_
  refine lv_iadd hx0 hb d_La_law_341 ?_
  refine va_sld hx0 hb hX hbl (Nat.not_le.mpr hbl) hZ.2.2.2.2.2.2.2.2 h1 d_La_law_342 ?_
  refine lv_aload_n hx0 hb d_La_law_343 rfl (lv_at hl 0 rfl) ?_
  refine lv_iload hx0 hb d_La_law_344 (lv_at hl 4 rfl) ?_
  refine lv_iconst (v := (2 : Int32)) hx0 hb d_La_law_346 (by decide) ?_
  refine lv_iadd hx0 hb d_La_law_347 ?_
  refine va_sld hx0 hb hX hbl (Nat.not_le.mpr hbl) hZ.2.2.2.2.2.2.2.2 h2 d_La_law_348 ?_
  refine lv_aload_n hx0 hb d_La_law_349 rfl (lv_at hl 0 rfl) ?_
  refine lv_iload hx0 hb d_La_law_350 (lv_at hl 4 rfl) ?_
  refine lv_iconst (v := (3 : Int32)) hx0 hb d_La_law_352 (by decide) ?_
  refine lv_iadd hx0 hb d_La_law_353 ?_
  refine va_sld hx0 hb hX hbl (Nat.not_le.mpr hbl) hZ.2.2.2.2.2.2.2.2 h3 d_La_law_354 ?_
  refine zl_runT (va_runV (n := 3) (As := [.int (xs (Int32.toNatClampNeg (x4 + (1 : Int32)))), .int (xs (Int32.toNatClampNeg (x4 + (2 : Int32)))), .int (xs (Int32.toNatClampNeg (x4 + (3 : Int32))))]) (rest := [.int r]) ⟨hx0, hb, hml, hown, hts⟩ (c_Md_item l G2 (xs (Int32.toNatClampNeg (x4 + (1 : Int32)))) (xs (Int32.toNatClampNeg (x4 + (2 : Int32)))) (xs (Int32.toNatClampNeg (x4 + (3 : Int32)))) M2 (r, N2) e2 H.size) ⟨zcB hts wc_Md_item wini_Md wm_La_76 (by decide +kernel) rfl rfl ⟨Nat.le_of_ble_eq_true rfl, Nat.le_of_ble_eq_true rfl⟩, hts _ wi_Md_item, hts _ ws_Md_item⟩ ⟨zP_blindT, va_recv hZ.2.2.2.1.1 hZ.2.2.2.2.2.1 (ci := 7) (q0 := 0) rfl rfl, zl_PT hZ⟩ rfl rfl hl.1 rfl (lv_room (Nat.le_of_ble_eq_true rfl)) d_La_law_355 ⟨Nat.le_trans (by omega : cl + 0 ≤ 20000) (by decide), Nat.le_trans (by omega : sl + 0 ≤ 200000) (by decide)⟩) hZ (fun H locs hZ => ?_)
  refine lv_icmp_eq (tgt := 1029) hx0 hb d_La_law_358 (by decide) (fun cc9 => ?_) (fun cc9 => ?_)
  · exact kk _ _ _ _ _ _ _ _ (by omega) (by omega) hI hZ (lv_sub hl [0, 1, 2, 3, 4] rfl)
  · exact absurd rfl cc9
set_option maxHeartbeats 4000000 in
set_option maxRecDepth 100000 in
theorem law_group {p : Program} {l : Launch} {e : Env} {s : State} {m : MethodId} {below : List Frame} {meth : Method} {c : Code} {Q : State → Prop} {H : Heap} {locs : List Loc} {cl sl b L : Nat} {xs : Nat → Int32} {ls : Array Slot} {G1 G2 : zG} {o : Nat} {M1 M2 : Mem} {fo : Nat → Int64} {x4 : Int32} {Inv : Mem → Mem → Prop} (hx0 : p.tables.exec = Jvm.exec) (hb : c.code = code) (hml : c.maxLocals = 8) (hts : ∀ w ∈ zws, w.before #[Value.ref b] s = true) (hown : s.vm.findClass R_La = some m.cls) (hfl : l.flags = pinnedFlags ++ [noTraceFlag]) (hX : va_X b L xs s s.heap) (hbl : b < s.heap.size) (hZX : zX s.heap.size s) (h1 : vp_in (x4 + (1 : Int32)) L) (h2 : vp_in (x4 + (2 : Int32)) L) (h3 : vp_in (x4 + (3 : Int32)) L) (h4 : vp_in (x4 + (4 : Int32)) L) (hcl : cl ≤ 10000) (hsl : sl ≤ 100000) (hZ : ZL G1 G2 o s M1 M2 fo H locs) (hInv : Inv M1 M2) (hl : lv_has ls 8 [(0, .ref b), (1, .ref (G1.1 0)), (2, .ref (G2.1 0)), (3, .ref o), (4, .int x4)]) (hG : Gd_group Inv) (kk : ∀ (cl' sl' : Nat) (N1 N2 : Mem) (fo' : Nat → Int64) (H1 : Heap) (locs1 : List Loc) (ls1 : Array Slot), cl' ≤ cl + 1 → sl' ≤ sl + 6 → Inv N1 N2 → ZL G1 G2 o s N1 N2 fo' H1 locs1 → lv_has ls1 8 [(0, .ref b), (1, .ref (G1.1 0)), (2, .ref (G2.1 0)), (3, .ref o), (4, .int x4)] → W p l e room_1 s m #[Value.ref b] below meth c H1 locs1 cl' sl' Q (F0 m 1029 ls1 [])) : W p l e room_1 s m #[Value.ref b] below meth c H locs cl sl Q (F0 m 363 ls []) := by
  obtain ⟨r, N1, N2, e1, e2, hI⟩ := hG M1 M2 hInv (xs (Int32.toNatClampNeg (x4 + (1 : Int32)))) (xs (Int32.toNatClampNeg (x4 + (2 : Int32))))
  refine lv_aload_n hx0 hb d_La_law_363 rfl (lv_at hl 1 rfl) ?_
  refine lv_aload_n hx0 hb d_La_law_364 rfl (lv_at hl 0 rfl) ?_
  refine lv_iload hx0 hb d_La_law_365 (lv_at hl 4 rfl) ?_
  refine lv_iconst (v := (1 : Int32)) hx0 hb d_La_law_367 (by decide) ?_
  refine lv_iadd hx0 hb d_La_law_368 ?_
  refine va_sld hx0 hb hX hbl (Nat.not_le.mpr hbl) hZ.2.2.2.2.2.2.2.2 h1 d_La_law_369 ?_
  refine lv_aload_n hx0 hb d_La_law_370 rfl (lv_at hl 0 rfl) ?_
  refine lv_iload hx0 hb d_La_law_371 (lv_at hl 4 rfl) ?_
  refine lv_iconst (v := (2 : Int32)) hx0 hb d_La_law_373 (by decide) ?_
  refine lv_iadd hx0 hb d_La_law_374 ?_
  refine va_sld hx0 hb hX hbl (Nat.not_le.mpr hbl) hZ.2.2.2.2.2.2.2.2 h2 d_La_law_375 ?_
  refine zl_runC (va_runV (n := 2) (As := [.int (xs (Int32.toNatClampNeg (x4 + (1 : Int32)))), .int (xs (Int32.toNatClampNeg (x4 + (2 : Int32))))]) (rest := []) ⟨hx0, hb, hml, hown, hts⟩ (c_ES_group l G1 (xs (Int32.toNatClampNeg (x4 + (1 : Int32)))) (xs (Int32.toNatClampNeg (x4 + (2 : Int32)))) M1 (r, N1) e1 H.size) ⟨zcB hts wc_ES_group wini_ES wm_La_77 (by decide +kernel) rfl rfl ⟨Nat.le_of_ble_eq_true rfl, Nat.le_of_ble_eq_true rfl⟩, hts _ wi_ES_group, hts _ ws_ES_group⟩ ⟨zP_blindC, va_recv hZ.2.2.1.1 hZ.2.2.2.2.1 (ci := 6) (q0 := 0) rfl rfl, zl_PC hZ⟩ rfl rfl hl.1 rfl (lv_room (Nat.le_of_ble_eq_true rfl)) d_La_law_376 ⟨Nat.le_trans (by omega : cl + 0 ≤ 20000) (by decide), Nat.le_trans (by omega : sl + 0 ≤ 200000) (by decide)⟩) hZ (fun H locs hZ => ?_)
  refine lv_aload_n hx0 hb d_La_law_379 rfl (lv_at hl 2 rfl) ?_
  refine lv_aload_n hx0 hb d_La_law_380 rfl (lv_at hl 0 rfl) ?_
  refine lv_iload hx0 hb d_La_law_381 (lv_at hl 4 rfl) ?_
  refine lv_iconst (v := (1 : Int32)) hx0 hb d_La_law_383 (by decide) ?_
  refine lv_iadd hx0 hb d_La_law_384 ?_
  refine va_sld hx0 hb hX hbl (Nat.not_le.mpr hbl) hZ.2.2.2.2.2.2.2.2 h1 d_La_law_385 ?_
  refine lv_aload_n hx0 hb d_La_law_386 rfl (lv_at hl 0 rfl) ?_
  refine lv_iload hx0 hb d_La_law_387 (lv_at hl 4 rfl) ?_
  refine lv_iconst (v := (2 : Int32)) hx0 hb d_La_law_389 (by decide) ?_
  refine lv_iadd hx0 hb d_La_law_390 ?_
  refine va_sld hx0 hb hX hbl (Nat.not_le.mpr hbl) hZ.2.2.2.2.2.2.2.2 h2 d_La_law_391 ?_
  refine zl_runT (va_runV (n := 2) (As := [.int (xs (Int32.toNatClampNeg (x4 + (1 : Int32)))), .int (xs (Int32.toNatClampNeg (x4 + (2 : Int32))))]) (rest := [.int r]) ⟨hx0, hb, hml, hown, hts⟩ (c_Md_group l G2 (xs (Int32.toNatClampNeg (x4 + (1 : Int32)))) (xs (Int32.toNatClampNeg (x4 + (2 : Int32)))) M2 (r, N2) e2 H.size) ⟨zcB hts wc_Md_group wini_Md wm_La_80 (by decide +kernel) rfl rfl ⟨Nat.le_of_ble_eq_true rfl, Nat.le_of_ble_eq_true rfl⟩, hts _ wi_Md_group, hts _ ws_Md_group⟩ ⟨zP_blindT, va_recv hZ.2.2.2.1.1 hZ.2.2.2.2.2.1 (ci := 7) (q0 := 0) rfl rfl, zl_PT hZ⟩ rfl rfl hl.1 rfl (lv_room (Nat.le_of_ble_eq_true rfl)) d_La_law_392 ⟨Nat.le_trans (by omega : cl + 0 ≤ 20000) (by decide), Nat.le_trans (by omega : sl + 0 ≤ 200000) (by decide)⟩) hZ (fun H locs hZ => ?_)
  refine lv_icmp_eq (tgt := 1029) hx0 hb d_La_law_395 (by decide) (fun cc9 => ?_) (fun cc9 => ?_)
  · exact kk _ _ _ _ _ _ _ _ (by omega) (by omega) hI hZ (lv_sub hl [0, 1, 2, 3, 4] rfl)
  · exact absurd rfl cc9
set_option maxHeartbeats 4000000 in
set_option maxRecDepth 100000 in
theorem law_answer {p : Program} {l : Launch} {e : Env} {s : State} {m : MethodId} {below : List Frame} {meth : Method} {c : Code} {Q : State → Prop} {H : Heap} {locs : List Loc} {cl sl b L : Nat} {xs : Nat → Int32} {ls : Array Slot} {G1 G2 : zG} {o : Nat} {M1 M2 : Mem} {fo : Nat → Int64} {x4 : Int32} {Inv : Mem → Mem → Prop} (hx0 : p.tables.exec = Jvm.exec) (hb : c.code = code) (hml : c.maxLocals = 8) (hts : ∀ w ∈ zws, w.before #[Value.ref b] s = true) (hown : s.vm.findClass R_La = some m.cls) (hfl : l.flags = pinnedFlags ++ [noTraceFlag]) (hX : va_X b L xs s s.heap) (hbl : b < s.heap.size) (hZX : zX s.heap.size s) (h1 : vp_in (x4 + (1 : Int32)) L) (h2 : vp_in (x4 + (2 : Int32)) L) (h3 : vp_in (x4 + (3 : Int32)) L) (h4 : vp_in (x4 + (4 : Int32)) L) (hcl : cl ≤ 10000) (hsl : sl ≤ 100000) (hZ : ZL G1 G2 o s M1 M2 fo H locs) (hInv : Inv M1 M2) (hl : lv_has ls 8 [(0, .ref b), (1, .ref (G1.1 0)), (2, .ref (G2.1 0)), (3, .ref o), (4, .int x4)]) (hG : Gd_answer Inv) (kk : ∀ (cl' sl' : Nat) (N1 N2 : Mem) (fo' : Nat → Int64) (H1 : Heap) (locs1 : List Loc) (ls1 : Array Slot), cl' ≤ cl + 1 → sl' ≤ sl + 6 → Inv N1 N2 → ZL G1 G2 o s N1 N2 fo' H1 locs1 → lv_has ls1 8 [(0, .ref b), (1, .ref (G1.1 0)), (2, .ref (G2.1 0)), (3, .ref o), (4, .int x4)] → W p l e room_1 s m #[Value.ref b] below meth c H1 locs1 cl' sl' Q (F0 m 1029 ls1 [])) : W p l e room_1 s m #[Value.ref b] below meth c H locs cl sl Q (F0 m 400 ls []) := by
  obtain ⟨r, N2, e1, e2, hI⟩ := hG M1 M2 hInv (xs (Int32.toNatClampNeg (x4 + (1 : Int32))))
  refine lv_aload_n hx0 hb d_La_law_400 rfl (lv_at hl 1 rfl) ?_
  refine lv_aload_n hx0 hb d_La_law_401 rfl (lv_at hl 0 rfl) ?_
  refine lv_iload hx0 hb d_La_law_402 (lv_at hl 4 rfl) ?_
  refine lv_iconst (v := (1 : Int32)) hx0 hb d_La_law_404 (by decide) ?_
  refine lv_iadd hx0 hb d_La_law_405 ?_
  refine va_sld hx0 hb hX hbl (Nat.not_le.mpr hbl) hZ.2.2.2.2.2.2.2.2 h1 d_La_law_406 ?_
  refine zl_runC (va_runV (n := 1) (As := [.int (xs (Int32.toNatClampNeg (x4 + (1 : Int32))))]) (rest := []) ⟨hx0, hb, hml, hown, hts⟩ (c_ES_answer l G1 (xs (Int32.toNatClampNeg (x4 + (1 : Int32)))) M1 r e1 H.size) ⟨zcB hts wc_ES_answer wini_ES wm_La_81 (by decide +kernel) rfl rfl ⟨Nat.le_of_ble_eq_true rfl, Nat.le_of_ble_eq_true rfl⟩, hts _ wi_ES_answer, hts _ ws_ES_answer⟩ ⟨zP_blindC, va_recv hZ.2.2.1.1 hZ.2.2.2.2.1 (ci := 6) (q0 := 0) rfl rfl, zl_PC hZ⟩ rfl rfl hl.1 rfl (lv_room (Nat.le_of_ble_eq_true rfl)) d_La_law_407 ⟨Nat.le_trans (by omega : cl + 0 ≤ 20000) (by decide), Nat.le_trans (by omega : sl + 0 ≤ 200000) (by decide)⟩) hZ (fun H locs hZ => ?_)
  refine lv_aload_n hx0 hb d_La_law_410 rfl (lv_at hl 2 rfl) ?_
  refine lv_aload_n hx0 hb d_La_law_411 rfl (lv_at hl 0 rfl) ?_
  refine lv_iload hx0 hb d_La_law_412 (lv_at hl 4 rfl) ?_
  refine lv_iconst (v := (1 : Int32)) hx0 hb d_La_law_414 (by decide) ?_
  refine lv_iadd hx0 hb d_La_law_415 ?_
  refine va_sld hx0 hb hX hbl (Nat.not_le.mpr hbl) hZ.2.2.2.2.2.2.2.2 h1 d_La_law_416 ?_
  refine zl_runT (va_runV (n := 1) (As := [.int (xs (Int32.toNatClampNeg (x4 + (1 : Int32))))]) (rest := [.long r]) ⟨hx0, hb, hml, hown, hts⟩ (c_Md_answer l G2 (xs (Int32.toNatClampNeg (x4 + (1 : Int32)))) M2 (r, N2) e2 H.size) ⟨zcB hts wc_Md_answer wini_Md wm_La_85 (by decide +kernel) rfl rfl ⟨Nat.le_of_ble_eq_true rfl, Nat.le_of_ble_eq_true rfl⟩, hts _ wi_Md_answer, hts _ ws_Md_answer⟩ ⟨zP_blindT, va_recv hZ.2.2.2.1.1 hZ.2.2.2.2.2.1 (ci := 7) (q0 := 0) rfl rfl, zl_PT hZ⟩ rfl rfl hl.1 rfl (lv_room (Nat.le_of_ble_eq_true rfl)) d_La_law_417 ⟨Nat.le_trans (by omega : cl + 0 ≤ 20000) (by decide), Nat.le_trans (by omega : sl + 0 ≤ 200000) (by decide)⟩) hZ (fun H locs hZ => ?_)
  refine W.lcmp hx0 hb d_La_law_420 ?_
  refine lv_if_eq (tgt := 1029) hx0 hb d_La_law_421 (by decide) (fun cc9 => ?_) (fun cc9 => ?_)
  · exact kk _ _ _ _ _ _ _ _ (by omega) (by omega) hI hZ (lv_sub hl [0, 1, 2, 3, 4] rfl)
  · exact absurd (lgc_self _) cc9
set_option maxHeartbeats 4000000 in
set_option maxRecDepth 100000 in
theorem law_value_N {p : Program} {l : Launch} {e : Env} {s : State} {m : MethodId} {below : List Frame} {meth : Method} {c : Code} {Q : State → Prop} {H : Heap} {locs : List Loc} {cl sl b L : Nat} {xs : Nat → Int32} {ls : Array Slot} {G1 G2 : zG} {o : Nat} {M1 M2 : Mem} {fo : Nat → Int64} {x4 : Int32} {Inv : Mem → Mem → Prop} (hx0 : p.tables.exec = Jvm.exec) (hb : c.code = code) (hml : c.maxLocals = 8) (hts : ∀ w ∈ zws, w.before #[Value.ref b] s = true) (hown : s.vm.findClass R_La = some m.cls) (hfl : l.flags = pinnedFlags ++ [noTraceFlag]) (hX : va_X b L xs s s.heap) (hbl : b < s.heap.size) (hZX : zX s.heap.size s) (h1 : vp_in (x4 + (1 : Int32)) L) (h2 : vp_in (x4 + (2 : Int32)) L) (h3 : vp_in (x4 + (3 : Int32)) L) (h4 : vp_in (x4 + (4 : Int32)) L) (hcl : cl ≤ 10000) (hsl : sl ≤ 100000) (hZ : ZL G1 G2 o s M1 M2 fo H locs) (hInv : Inv M1 M2) (hl : lv_has ls 8 [(0, .ref b), (1, .ref (G1.1 0)), (2, .ref (G2.1 0)), (3, .ref o), (4, .int x4)]) (r : Int64) (N1 N2 : Mem) (e1 : p_ES_value (xs (Int32.toNatClampNeg (x4 + (1 : Int32)))) (xs (Int32.toNatClampNeg (x4 + (2 : Int32)))) M1 = some (some r, N1)) (e2 : p_Md_value (xs (Int32.toNatClampNeg (x4 + (1 : Int32)))) (xs (Int32.toNatClampNeg (x4 + (2 : Int32)))) M2 = some (r, N2)) (hth : N2.1 0 0 = 0) (hI : Inv N1 N2) (kk : ∀ (cl' sl' : Nat) (N1 N2 : Mem) (fo' : Nat → Int64) (H1 : Heap) (locs1 : List Loc) (ls1 : Array Slot), cl' ≤ cl + 1 → sl' ≤ sl + 6 → Inv N1 N2 → ZL G1 G2 o s N1 N2 fo' H1 locs1 → lv_has ls1 8 [(0, .ref b), (1, .ref (G1.1 0)), (2, .ref (G2.1 0)), (3, .ref o), (4, .int x4)] → W p l e room_1 s m #[Value.ref b] below meth c H1 locs1 cl' sl' Q (F0 m 1029 ls1 [])) : W p l e room_1 s m #[Value.ref b] below meth c H locs cl sl Q (F0 m 426 ls []) := by
  refine lv_aload_n hx0 hb d_La_law_426 rfl (lv_at hl 1 rfl) ?_
  refine lv_aload_n hx0 hb d_La_law_427 rfl (lv_at hl 0 rfl) ?_
  refine lv_iload hx0 hb d_La_law_428 (lv_at hl 4 rfl) ?_
  refine lv_iconst (v := (1 : Int32)) hx0 hb d_La_law_430 (by decide) ?_
  refine lv_iadd hx0 hb d_La_law_431 ?_
  refine va_sld hx0 hb hX hbl (Nat.not_le.mpr hbl) hZ.2.2.2.2.2.2.2.2 h1 d_La_law_432 ?_
  refine lv_aload_n hx0 hb d_La_law_433 rfl (lv_at hl 0 rfl) ?_
  refine lv_iload hx0 hb d_La_law_434 (lv_at hl 4 rfl) ?_
  refine lv_iconst (v := (2 : Int32)) hx0 hb d_La_law_436 (by decide) ?_
  refine lv_iadd hx0 hb d_La_law_437 ?_
  refine va_sld hx0 hb hX hbl (Nat.not_le.mpr hbl) hZ.2.2.2.2.2.2.2.2 h2 d_La_law_438 ?_
  refine lv_aload_n hx0 hb d_La_law_439 rfl (lv_at hl 3 rfl) ?_
  refine zl_callH (n := 4) [.ref (G1.1 0), .int (xs (Int32.toNatClampNeg (x4 + (1 : Int32)))), .int (xs (Int32.toNatClampNeg (x4 + (2 : Int32)))), .ref o] hx0 hb hml hts hown (ch_La_value l G1 o (xs (Int32.toNatClampNeg (x4 + (1 : Int32)))) (xs (Int32.toNatClampNeg (x4 + (2 : Int32)))) M1 fo r N1 e1) wc_La_value wini_La wst_La_value wm_La_86 (by decide +kernel) hZ hZX rfl rfl ⟨Nat.le_of_ble_eq_true rfl, Nat.le_of_ble_eq_true rfl⟩ ⟨Nat.le_trans (by omega : cl + 1 ≤ 20000) (by decide), Nat.le_trans (by omega : sl + 6 ≤ 200000) (by decide)⟩ hl.1 rfl (Nat.le_of_ble_eq_true rfl) d_La_law_440 (fun H locs hZ => ?_)
  refine lv_istore (lv' := [(5, .int 0), (0, .ref b), (1, .ref (G1.1 0)), (2, .ref (G2.1 0)), (3, .ref o), (4, .int x4)]) hx0 hb d_La_law_443 hl (by decide) rfl (fun ls hl => ?_)
  refine lv_aload_n hx0 hb d_La_law_445 rfl (lv_at hl 3 rfl) ?_
  refine lv_aload_n hx0 hb d_La_law_446 rfl (lv_at hl 1 rfl) ?_
  refine lv_iload hx0 hb d_La_law_447 (lv_at hl 5 rfl) ?_
  refine lv_iconst (v := (1 : Int32)) hx0 hb d_La_law_449 (by decide) ?_
  refine lv_iadd hx0 hb d_La_law_450 ?_
  refine va_sld hx0 hb hX hbl (Nat.not_le.mpr hbl) hZ.2.2.2.2.2.2.2.2 h1 d_La_law_451 ?_
  refine lv_aload_n hx0 hb d_La_law_452 rfl (lv_at hl 1 rfl) ?_
  refine lv_iload hx0 hb d_La_law_453 (lv_at hl 5 rfl) ?_
  refine lv_iconst (v := (2 : Int32)) hx0 hb d_La_law_455 (by decide) ?_
  refine lv_iadd hx0 hb d_La_law_456 ?_
  refine va_sld hx0 hb hX hbl (Nat.not_le.mpr hbl) hZ.2.2.2.2.2.2.2.2 h2 d_La_law_457 ?_
  refine zl_runT (va_runV (n := 2) (As := [.int (xs (Int32.toNatClampNeg (x4 + (1 : Int32)))), .int (xs (Int32.toNatClampNeg (x4 + (2 : Int32))))]) (rest := []) ⟨hx0, hb, hml, hown, hts⟩ (c_Md_value l G2 (xs (Int32.toNatClampNeg (x4 + (1 : Int32)))) (xs (Int32.toNatClampNeg (x4 + (2 : Int32)))) M2 (r, N2) e2 H.size) ⟨zcB hts wc_Md_value wini_Md wm_La_89 (by decide +kernel) rfl rfl ⟨Nat.le_of_ble_eq_true rfl, Nat.le_of_ble_eq_true rfl⟩, hts _ wi_Md_value, hts _ ws_Md_value⟩ ⟨zP_blindT, va_recv hZ.2.2.2.1.1 hZ.2.2.2.2.2.1 (ci := 7) (q0 := 0) rfl rfl, zl_PT hZ⟩ rfl rfl hl.1 rfl (lv_room (Nat.le_of_ble_eq_true rfl)) d_La_law_458 ⟨Nat.le_trans (by omega : (cl + 1) + 0 ≤ 20000) (by decide), Nat.le_trans (by omega : (sl + 6) + 0 ≤ 200000) (by decide)⟩) hZ (fun H locs hZ => ?_)
  refine lv_lstore (lv' := [(6, .long r), (5, .int 0), (0, .ref b), (1, .ref (G1.1 0)), (2, .ref (G2.1 0)), (3, .ref o), (4, .int x4)]) hx0 hb d_La_law_461 hl (by decide) rfl (fun ls hl => ?_)
  refine lv_aload_n hx0 hb d_La_law_463 rfl (lv_at hl 4 rfl) ?_
  refine zl_runT (va_runV (n := 0) (As := []) (rest := []) ⟨hx0, hb, hml, hown, hts⟩ (c_Md_thrown l G2 N2 (N2.1 0 0) rfl H.size) ⟨zcB hts wc_Md_thrown wini_Md wm_La_90 (by decide +kernel) rfl rfl ⟨Nat.le_of_ble_eq_true rfl, Nat.le_of_ble_eq_true rfl⟩, hts _ wi_Md_thrown, hts _ ws_Md_thrown⟩ ⟨zP_blindT, va_recv hZ.2.2.2.1.1 hZ.2.2.2.2.2.1 (ci := 7) (q0 := 0) rfl rfl, zl_PT hZ⟩ rfl rfl hl.1 rfl (lv_room (Nat.le_of_ble_eq_true rfl)) d_La_law_464 ⟨Nat.le_trans (by omega : (cl + 1) + 0 ≤ 20000) (by decide), Nat.le_trans (by omega : (sl + 6) + 0 ≤ 200000) (by decide)⟩) hZ (fun H locs hZ => ?_)
  refine lv_iload hx0 hb d_La_law_467 (lv_at hl 1 rfl) ?_
  refine lv_icmp_eq (tgt := 474) hx0 hb d_La_law_469 (by decide) (fun cc9 => ?_) (fun cc9 => ?_)
  · refine lv_iload hx0 hb d_La_law_474 (lv_at hl 1 rfl) ?_
    refine lv_if_ne (tgt := 490) hx0 hb d_La_law_476 (by decide) (fun cc9 => ?_) (fun cc9 => ?_)
    · exact absurd rfl cc9
    · refine lv_aload_n hx0 hb d_La_law_479 rfl (lv_at hl 5 rfl) ?_
      refine lv_iconst (v := (0 : Int32)) hx0 hb d_La_law_480 (by decide) ?_
      refine va_lald hx0 hb hZ.2.2.1.1 hZ.2.2.2.2.2.2.1 0 1 rfl rfl (vp_in_nI (n := 0) (by decide) (by decide)) d_La_law_481 ?_
      refine lv_lload hx0 hb d_La_law_482 (lv_at hl 0 rfl) ?_
      refine W.lcmp hx0 hb d_La_law_484 ?_
      refine lv_if_eq (tgt := 490) hx0 hb d_La_law_485 (by decide) (fun cc9 => ?_) (fun cc9 => ?_)
      · refine lv_goto (tgt := 1029) hx0 hb d_La_law_490 (by decide) ?_
        exact kk _ _ _ _ _ _ _ _ (by omega) (by omega) hI hZ (lv_sub hl [2, 3, 4, 5, 6] rfl)
      · exact absurd (lgc_self _) cc9
  · exact absurd hth cc9
set_option maxHeartbeats 4000000 in
set_option maxRecDepth 100000 in
theorem law_value_X {p : Program} {l : Launch} {e : Env} {s : State} {m : MethodId} {below : List Frame} {meth : Method} {c : Code} {Q : State → Prop} {H : Heap} {locs : List Loc} {cl sl b L : Nat} {xs : Nat → Int32} {ls : Array Slot} {G1 G2 : zG} {o : Nat} {M1 M2 : Mem} {fo : Nat → Int64} {x4 : Int32} {Inv : Mem → Mem → Prop} (hx0 : p.tables.exec = Jvm.exec) (hb : c.code = code) (hml : c.maxLocals = 8) (hts : ∀ w ∈ zws, w.before #[Value.ref b] s = true) (hown : s.vm.findClass R_La = some m.cls) (hfl : l.flags = pinnedFlags ++ [noTraceFlag]) (hX : va_X b L xs s s.heap) (hbl : b < s.heap.size) (hZX : zX s.heap.size s) (h1 : vp_in (x4 + (1 : Int32)) L) (h2 : vp_in (x4 + (2 : Int32)) L) (h3 : vp_in (x4 + (3 : Int32)) L) (h4 : vp_in (x4 + (4 : Int32)) L) (hcl : cl ≤ 10000) (hsl : sl ≤ 100000) (hZ : ZL G1 G2 o s M1 M2 fo H locs) (hInv : Inv M1 M2) (hl : lv_has ls 8 [(0, .ref b), (1, .ref (G1.1 0)), (2, .ref (G2.1 0)), (3, .ref o), (4, .int x4)]) (r : Int64) (N1 N2 : Mem) (e1 : p_ES_value (xs (Int32.toNatClampNeg (x4 + (1 : Int32)))) (xs (Int32.toNatClampNeg (x4 + (2 : Int32)))) M1 = some (none, N1)) (e2 : p_Md_value (xs (Int32.toNatClampNeg (x4 + (1 : Int32)))) (xs (Int32.toNatClampNeg (x4 + (2 : Int32)))) M2 = some (r, N2)) (hth : N2.1 0 0 = 1) (hI : Inv N1 N2) (kk : ∀ (cl' sl' : Nat) (N1 N2 : Mem) (fo' : Nat → Int64) (H1 : Heap) (locs1 : List Loc) (ls1 : Array Slot), cl' ≤ cl + 1 → sl' ≤ sl + 6 → Inv N1 N2 → ZL G1 G2 o s N1 N2 fo' H1 locs1 → lv_has ls1 8 [(0, .ref b), (1, .ref (G1.1 0)), (2, .ref (G2.1 0)), (3, .ref o), (4, .int x4)] → W p l e room_1 s m #[Value.ref b] below meth c H1 locs1 cl' sl' Q (F0 m 1029 ls1 [])) : W p l e room_1 s m #[Value.ref b] below meth c H locs cl sl Q (F0 m 426 ls []) := by
  refine lv_aload_n hx0 hb d_La_law_426 rfl (lv_at hl 1 rfl) ?_
  refine lv_aload_n hx0 hb d_La_law_427 rfl (lv_at hl 0 rfl) ?_
  refine lv_iload hx0 hb d_La_law_428 (lv_at hl 4 rfl) ?_
  refine lv_iconst (v := (1 : Int32)) hx0 hb d_La_law_430 (by decide) ?_
  refine lv_iadd hx0 hb d_La_law_431 ?_
  refine va_sld hx0 hb hX hbl (Nat.not_le.mpr hbl) hZ.2.2.2.2.2.2.2.2 h1 d_La_law_432 ?_
  refine lv_aload_n hx0 hb d_La_law_433 rfl (lv_at hl 0 rfl) ?_
  refine lv_iload hx0 hb d_La_law_434 (lv_at hl 4 rfl) ?_
  refine lv_iconst (v := (2 : Int32)) hx0 hb d_La_law_436 (by decide) ?_
  refine lv_iadd hx0 hb d_La_law_437 ?_
  refine va_sld hx0 hb hX hbl (Nat.not_le.mpr hbl) hZ.2.2.2.2.2.2.2.2 h2 d_La_law_438 ?_
  refine lv_aload_n hx0 hb d_La_law_439 rfl (lv_at hl 3 rfl) ?_
  refine zl_callH (n := 4) [.ref (G1.1 0), .int (xs (Int32.toNatClampNeg (x4 + (1 : Int32)))), .int (xs (Int32.toNatClampNeg (x4 + (2 : Int32)))), .ref o] hx0 hb hml hts hown (chx_La_value l hfl G1 o (xs (Int32.toNatClampNeg (x4 + (1 : Int32)))) (xs (Int32.toNatClampNeg (x4 + (2 : Int32)))) M1 fo N1 e1) wc_La_value wini_La wst_La_value wm_La_86 (by decide +kernel) hZ hZX rfl rfl ⟨Nat.le_of_ble_eq_true rfl, Nat.le_of_ble_eq_true rfl⟩ ⟨Nat.le_trans (by omega : cl + 1 ≤ 20000) (by decide), Nat.le_trans (by omega : sl + 6 ≤ 200000) (by decide)⟩ hl.1 rfl (Nat.le_of_ble_eq_true rfl) d_La_law_440 (fun H locs hZ => ?_)
  refine lv_istore (lv' := [(5, .int 1), (0, .ref b), (1, .ref (G1.1 0)), (2, .ref (G2.1 0)), (3, .ref o), (4, .int x4)]) hx0 hb d_La_law_443 hl (by decide) rfl (fun ls hl => ?_)
  refine lv_aload_n hx0 hb d_La_law_445 rfl (lv_at hl 3 rfl) ?_
  refine lv_aload_n hx0 hb d_La_law_446 rfl (lv_at hl 1 rfl) ?_
  refine lv_iload hx0 hb d_La_law_447 (lv_at hl 5 rfl) ?_
  refine lv_iconst (v := (1 : Int32)) hx0 hb d_La_law_449 (by decide) ?_
  refine lv_iadd hx0 hb d_La_law_450 ?_
  refine va_sld hx0 hb hX hbl (Nat.not_le.mpr hbl) hZ.2.2.2.2.2.2.2.2 h1 d_La_law_451 ?_
  refine lv_aload_n hx0 hb d_La_law_452 rfl (lv_at hl 1 rfl) ?_
  refine lv_iload hx0 hb d_La_law_453 (lv_at hl 5 rfl) ?_
  refine lv_iconst (v := (2 : Int32)) hx0 hb d_La_law_455 (by decide) ?_
  refine lv_iadd hx0 hb d_La_law_456 ?_
  refine va_sld hx0 hb hX hbl (Nat.not_le.mpr hbl) hZ.2.2.2.2.2.2.2.2 h2 d_La_law_457 ?_
  refine zl_runT (va_runV (n := 2) (As := [.int (xs (Int32.toNatClampNeg (x4 + (1 : Int32)))), .int (xs (Int32.toNatClampNeg (x4 + (2 : Int32))))]) (rest := []) ⟨hx0, hb, hml, hown, hts⟩ (c_Md_value l G2 (xs (Int32.toNatClampNeg (x4 + (1 : Int32)))) (xs (Int32.toNatClampNeg (x4 + (2 : Int32)))) M2 (r, N2) e2 H.size) ⟨zcB hts wc_Md_value wini_Md wm_La_89 (by decide +kernel) rfl rfl ⟨Nat.le_of_ble_eq_true rfl, Nat.le_of_ble_eq_true rfl⟩, hts _ wi_Md_value, hts _ ws_Md_value⟩ ⟨zP_blindT, va_recv hZ.2.2.2.1.1 hZ.2.2.2.2.2.1 (ci := 7) (q0 := 0) rfl rfl, zl_PT hZ⟩ rfl rfl hl.1 rfl (lv_room (Nat.le_of_ble_eq_true rfl)) d_La_law_458 ⟨Nat.le_trans (by omega : (cl + 1) + 0 ≤ 20000) (by decide), Nat.le_trans (by omega : (sl + 6) + 0 ≤ 200000) (by decide)⟩) hZ (fun H locs hZ => ?_)
  refine lv_lstore (lv' := [(6, .long r), (5, .int 1), (0, .ref b), (1, .ref (G1.1 0)), (2, .ref (G2.1 0)), (3, .ref o), (4, .int x4)]) hx0 hb d_La_law_461 hl (by decide) rfl (fun ls hl => ?_)
  refine lv_aload_n hx0 hb d_La_law_463 rfl (lv_at hl 4 rfl) ?_
  refine zl_runT (va_runV (n := 0) (As := []) (rest := []) ⟨hx0, hb, hml, hown, hts⟩ (c_Md_thrown l G2 N2 (N2.1 0 0) rfl H.size) ⟨zcB hts wc_Md_thrown wini_Md wm_La_90 (by decide +kernel) rfl rfl ⟨Nat.le_of_ble_eq_true rfl, Nat.le_of_ble_eq_true rfl⟩, hts _ wi_Md_thrown, hts _ ws_Md_thrown⟩ ⟨zP_blindT, va_recv hZ.2.2.2.1.1 hZ.2.2.2.2.2.1 (ci := 7) (q0 := 0) rfl rfl, zl_PT hZ⟩ rfl rfl hl.1 rfl (lv_room (Nat.le_of_ble_eq_true rfl)) d_La_law_464 ⟨Nat.le_trans (by omega : (cl + 1) + 0 ≤ 20000) (by decide), Nat.le_trans (by omega : (sl + 6) + 0 ≤ 200000) (by decide)⟩) hZ (fun H locs hZ => ?_)
  refine lv_iload hx0 hb d_La_law_467 (lv_at hl 1 rfl) ?_
  refine lv_icmp_eq (tgt := 474) hx0 hb d_La_law_469 (by decide) (fun cc9 => ?_) (fun cc9 => ?_)
  · refine lv_iload hx0 hb d_La_law_474 (lv_at hl 1 rfl) ?_
    refine lv_if_ne (tgt := 490) hx0 hb d_La_law_476 (by decide) (fun cc9 => ?_) (fun cc9 => ?_)
    · refine lv_goto (tgt := 1029) hx0 hb d_La_law_490 (by decide) ?_
      exact kk _ _ _ _ _ _ _ _ (by omega) (by omega) hI hZ (lv_sub hl [2, 3, 4, 5, 6] rfl)
    · exact absurd cc9 (by decide)
  · exact absurd hth cc9
theorem law_value {p : Program} {l : Launch} {e : Env} {s : State} {m : MethodId} {below : List Frame} {meth : Method} {c : Code} {Q : State → Prop} {H : Heap} {locs : List Loc} {cl sl b L : Nat} {xs : Nat → Int32} {ls : Array Slot} {G1 G2 : zG} {o : Nat} {M1 M2 : Mem} {fo : Nat → Int64} {x4 : Int32} {Inv : Mem → Mem → Prop} (hx0 : p.tables.exec = Jvm.exec) (hb : c.code = code) (hml : c.maxLocals = 8) (hts : ∀ w ∈ zws, w.before #[Value.ref b] s = true) (hown : s.vm.findClass R_La = some m.cls) (hfl : l.flags = pinnedFlags ++ [noTraceFlag]) (hX : va_X b L xs s s.heap) (hbl : b < s.heap.size) (hZX : zX s.heap.size s) (h1 : vp_in (x4 + (1 : Int32)) L) (h2 : vp_in (x4 + (2 : Int32)) L) (h3 : vp_in (x4 + (3 : Int32)) L) (h4 : vp_in (x4 + (4 : Int32)) L) (hcl : cl ≤ 10000) (hsl : sl ≤ 100000) (hZ : ZL G1 G2 o s M1 M2 fo H locs) (hInv : Inv M1 M2) (hl : lv_has ls 8 [(0, .ref b), (1, .ref (G1.1 0)), (2, .ref (G2.1 0)), (3, .ref o), (4, .int x4)]) (hG : Gd_value Inv) (kk : ∀ (cl' sl' : Nat) (N1 N2 : Mem) (fo' : Nat → Int64) (H1 : Heap) (locs1 : List Loc) (ls1 : Array Slot), cl' ≤ cl + 1 → sl' ≤ sl + 6 → Inv N1 N2 → ZL G1 G2 o s N1 N2 fo' H1 locs1 → lv_has ls1 8 [(0, .ref b), (1, .ref (G1.1 0)), (2, .ref (G2.1 0)), (3, .ref o), (4, .int x4)] → W p l e room_1 s m #[Value.ref b] below meth c H1 locs1 cl' sl' Q (F0 m 1029 ls1 [])) : W p l e room_1 s m #[Value.ref b] below meth c H locs cl sl Q (F0 m 426 ls []) := by
  rcases hG M1 M2 hInv (xs (Int32.toNatClampNeg (x4 + (1 : Int32)))) (xs (Int32.toNatClampNeg (x4 + (2 : Int32)))) with ⟨r, N1, N2, e1, e2, hth, hI⟩ | ⟨r, N1, N2, e1, e2, hth, hI⟩
  · exact law_value_N hx0 hb hml hts hown hfl hX hbl hZX h1 h2 h3 h4 hcl hsl hZ hInv hl r N1 N2 e1 e2 hth hI kk
  · exact law_value_X hx0 hb hml hts hown hfl hX hbl hZX h1 h2 h3 h4 hcl hsl hZ hInv hl r N1 N2 e1 e2 hth hI kk
set_option maxHeartbeats 4000000 in
set_option maxRecDepth 100000 in
theorem law_share_N {p : Program} {l : Launch} {e : Env} {s : State} {m : MethodId} {below : List Frame} {meth : Method} {c : Code} {Q : State → Prop} {H : Heap} {locs : List Loc} {cl sl b L : Nat} {xs : Nat → Int32} {ls : Array Slot} {G1 G2 : zG} {o : Nat} {M1 M2 : Mem} {fo : Nat → Int64} {x4 : Int32} {Inv : Mem → Mem → Prop} (hx0 : p.tables.exec = Jvm.exec) (hb : c.code = code) (hml : c.maxLocals = 8) (hts : ∀ w ∈ zws, w.before #[Value.ref b] s = true) (hown : s.vm.findClass R_La = some m.cls) (hfl : l.flags = pinnedFlags ++ [noTraceFlag]) (hX : va_X b L xs s s.heap) (hbl : b < s.heap.size) (hZX : zX s.heap.size s) (h1 : vp_in (x4 + (1 : Int32)) L) (h2 : vp_in (x4 + (2 : Int32)) L) (h3 : vp_in (x4 + (3 : Int32)) L) (h4 : vp_in (x4 + (4 : Int32)) L) (hcl : cl ≤ 10000) (hsl : sl ≤ 100000) (hZ : ZL G1 G2 o s M1 M2 fo H locs) (hInv : Inv M1 M2) (hl : lv_has ls 8 [(0, .ref b), (1, .ref (G1.1 0)), (2, .ref (G2.1 0)), (3, .ref o), (4, .int x4)]) (r : Int64) (N1 N2 : Mem) (e1 : p_ES_share (xs (Int32.toNatClampNeg (x4 + (1 : Int32)))) (xs (Int32.toNatClampNeg (x4 + (2 : Int32)))) (xs (Int32.toNatClampNeg (x4 + (3 : Int32)))) M1 = some (some r, N1)) (e2 : p_Md_share (xs (Int32.toNatClampNeg (x4 + (1 : Int32)))) (xs (Int32.toNatClampNeg (x4 + (2 : Int32)))) (xs (Int32.toNatClampNeg (x4 + (3 : Int32)))) M2 = some (r, N2)) (hth : N2.1 0 0 = 0) (hI : Inv N1 N2) (kk : ∀ (cl' sl' : Nat) (N1 N2 : Mem) (fo' : Nat → Int64) (H1 : Heap) (locs1 : List Loc) (ls1 : Array Slot), cl' ≤ cl + 1 → sl' ≤ sl + 6 → Inv N1 N2 → ZL G1 G2 o s N1 N2 fo' H1 locs1 → lv_has ls1 8 [(0, .ref b), (1, .ref (G1.1 0)), (2, .ref (G2.1 0)), (3, .ref o), (4, .int x4)] → W p l e room_1 s m #[Value.ref b] below meth c H1 locs1 cl' sl' Q (F0 m 1029 ls1 [])) : W p l e room_1 s m #[Value.ref b] below meth c H locs cl sl Q (F0 m 493 ls []) := by
  refine lv_aload_n hx0 hb d_La_law_493 rfl (lv_at hl 1 rfl) ?_
  refine lv_aload_n hx0 hb d_La_law_494 rfl (lv_at hl 0 rfl) ?_
  refine lv_iload hx0 hb d_La_law_495 (lv_at hl 4 rfl) ?_
  refine lv_iconst (v := (1 : Int32)) hx0 hb d_La_law_497 (by decide) ?_
  refine lv_iadd hx0 hb d_La_law_498 ?_
  refine va_sld hx0 hb hX hbl (Nat.not_le.mpr hbl) hZ.2.2.2.2.2.2.2.2 h1 d_La_law_499 ?_
  refine lv_aload_n hx0 hb d_La_law_500 rfl (lv_at hl 0 rfl) ?_
  refine lv_iload hx0 hb d_La_law_501 (lv_at hl 4 rfl) ?_
  refine lv_iconst (v := (2 : Int32)) hx0 hb d_La_law_503 (by decide) ?_
  refine lv_iadd hx0 hb d_La_law_504 ?_
  refine va_sld hx0 hb hX hbl (Nat.not_le.mpr hbl) hZ.2.2.2.2.2.2.2.2 h2 d_La_law_505 ?_
  refine lv_aload_n hx0 hb d_La_law_506 rfl (lv_at hl 0 rfl) ?_
  refine lv_iload hx0 hb d_La_law_507 (lv_at hl 4 rfl) ?_
  refine lv_iconst (v := (3 : Int32)) hx0 hb d_La_law_509 (by decide) ?_
  refine lv_iadd hx0 hb d_La_law_510 ?_
  refine va_sld hx0 hb hX hbl (Nat.not_le.mpr hbl) hZ.2.2.2.2.2.2.2.2 h3 d_La_law_511 ?_
  refine lv_aload_n hx0 hb d_La_law_512 rfl (lv_at hl 3 rfl) ?_
  refine zl_callH (n := 5) [.ref (G1.1 0), .int (xs (Int32.toNatClampNeg (x4 + (1 : Int32)))), .int (xs (Int32.toNatClampNeg (x4 + (2 : Int32)))), .int (xs (Int32.toNatClampNeg (x4 + (3 : Int32)))), .ref o] hx0 hb hml hts hown (ch_La_share l G1 o (xs (Int32.toNatClampNeg (x4 + (1 : Int32)))) (xs (Int32.toNatClampNeg (x4 + (2 : Int32)))) (xs (Int32.toNatClampNeg (x4 + (3 : Int32)))) M1 fo r N1 e1) wc_La_share wini_La wst_La_share wm_La_93 (by decide +kernel) hZ hZX rfl rfl ⟨Nat.le_of_ble_eq_true rfl, Nat.le_of_ble_eq_true rfl⟩ ⟨Nat.le_trans (by omega : cl + 1 ≤ 20000) (by decide), Nat.le_trans (by omega : sl + 6 ≤ 200000) (by decide)⟩ hl.1 rfl (Nat.le_of_ble_eq_true rfl) d_La_law_513 (fun H locs hZ => ?_)
  refine lv_istore (lv' := [(5, .int 0), (0, .ref b), (1, .ref (G1.1 0)), (2, .ref (G2.1 0)), (3, .ref o), (4, .int x4)]) hx0 hb d_La_law_516 hl (by decide) rfl (fun ls hl => ?_)
  refine lv_aload_n hx0 hb d_La_law_518 rfl (lv_at hl 3 rfl) ?_
  refine lv_aload_n hx0 hb d_La_law_519 rfl (lv_at hl 1 rfl) ?_
  refine lv_iload hx0 hb d_La_law_520 (lv_at hl 5 rfl) ?_
  refine lv_iconst (v := (1 : Int32)) hx0 hb d_La_law_522 (by decide) ?_
  refine lv_iadd hx0 hb d_La_law_523 ?_
  refine va_sld hx0 hb hX hbl (Nat.not_le.mpr hbl) hZ.2.2.2.2.2.2.2.2 h1 d_La_law_524 ?_
  refine lv_aload_n hx0 hb d_La_law_525 rfl (lv_at hl 1 rfl) ?_
  refine lv_iload hx0 hb d_La_law_526 (lv_at hl 5 rfl) ?_
  refine lv_iconst (v := (2 : Int32)) hx0 hb d_La_law_528 (by decide) ?_
  refine lv_iadd hx0 hb d_La_law_529 ?_
  refine va_sld hx0 hb hX hbl (Nat.not_le.mpr hbl) hZ.2.2.2.2.2.2.2.2 h2 d_La_law_530 ?_
  refine lv_aload_n hx0 hb d_La_law_531 rfl (lv_at hl 1 rfl) ?_
  refine lv_iload hx0 hb d_La_law_532 (lv_at hl 5 rfl) ?_
  refine lv_iconst (v := (3 : Int32)) hx0 hb d_La_law_534 (by decide) ?_
  refine lv_iadd hx0 hb d_La_law_535 ?_
  refine va_sld hx0 hb hX hbl (Nat.not_le.mpr hbl) hZ.2.2.2.2.2.2.2.2 h3 d_La_law_536 ?_
  refine zl_runT (va_runV (n := 3) (As := [.int (xs (Int32.toNatClampNeg (x4 + (1 : Int32)))), .int (xs (Int32.toNatClampNeg (x4 + (2 : Int32)))), .int (xs (Int32.toNatClampNeg (x4 + (3 : Int32))))]) (rest := []) ⟨hx0, hb, hml, hown, hts⟩ (c_Md_share l G2 (xs (Int32.toNatClampNeg (x4 + (1 : Int32)))) (xs (Int32.toNatClampNeg (x4 + (2 : Int32)))) (xs (Int32.toNatClampNeg (x4 + (3 : Int32)))) M2 (r, N2) e2 H.size) ⟨zcB hts wc_Md_share wini_Md wm_La_96 (by decide +kernel) rfl rfl ⟨Nat.le_of_ble_eq_true rfl, Nat.le_of_ble_eq_true rfl⟩, hts _ wi_Md_share, hts _ ws_Md_share⟩ ⟨zP_blindT, va_recv hZ.2.2.2.1.1 hZ.2.2.2.2.2.1 (ci := 7) (q0 := 0) rfl rfl, zl_PT hZ⟩ rfl rfl hl.1 rfl (lv_room (Nat.le_of_ble_eq_true rfl)) d_La_law_537 ⟨Nat.le_trans (by omega : (cl + 1) + 0 ≤ 20000) (by decide), Nat.le_trans (by omega : (sl + 6) + 0 ≤ 200000) (by decide)⟩) hZ (fun H locs hZ => ?_)
  refine lv_lstore (lv' := [(6, .long r), (5, .int 0), (0, .ref b), (1, .ref (G1.1 0)), (2, .ref (G2.1 0)), (3, .ref o), (4, .int x4)]) hx0 hb d_La_law_540 hl (by decide) rfl (fun ls hl => ?_)
  refine lv_aload_n hx0 hb d_La_law_542 rfl (lv_at hl 4 rfl) ?_
  refine zl_runT (va_runV (n := 0) (As := []) (rest := []) ⟨hx0, hb, hml, hown, hts⟩ (c_Md_thrown l G2 N2 (N2.1 0 0) rfl H.size) ⟨zcB hts wc_Md_thrown wini_Md wm_La_90 (by decide +kernel) rfl rfl ⟨Nat.le_of_ble_eq_true rfl, Nat.le_of_ble_eq_true rfl⟩, hts _ wi_Md_thrown, hts _ ws_Md_thrown⟩ ⟨zP_blindT, va_recv hZ.2.2.2.1.1 hZ.2.2.2.2.2.1 (ci := 7) (q0 := 0) rfl rfl, zl_PT hZ⟩ rfl rfl hl.1 rfl (lv_room (Nat.le_of_ble_eq_true rfl)) d_La_law_543 ⟨Nat.le_trans (by omega : (cl + 1) + 0 ≤ 20000) (by decide), Nat.le_trans (by omega : (sl + 6) + 0 ≤ 200000) (by decide)⟩) hZ (fun H locs hZ => ?_)
  refine lv_iload hx0 hb d_La_law_546 (lv_at hl 1 rfl) ?_
  refine lv_icmp_eq (tgt := 553) hx0 hb d_La_law_548 (by decide) (fun cc9 => ?_) (fun cc9 => ?_)
  · refine lv_iload hx0 hb d_La_law_553 (lv_at hl 1 rfl) ?_
    refine lv_if_ne (tgt := 569) hx0 hb d_La_law_555 (by decide) (fun cc9 => ?_) (fun cc9 => ?_)
    · exact absurd rfl cc9
    · refine lv_aload_n hx0 hb d_La_law_558 rfl (lv_at hl 5 rfl) ?_
      refine lv_iconst (v := (0 : Int32)) hx0 hb d_La_law_559 (by decide) ?_
      refine va_lald hx0 hb hZ.2.2.1.1 hZ.2.2.2.2.2.2.1 0 1 rfl rfl (vp_in_nI (n := 0) (by decide) (by decide)) d_La_law_560 ?_
      refine lv_lload hx0 hb d_La_law_561 (lv_at hl 0 rfl) ?_
      refine W.lcmp hx0 hb d_La_law_563 ?_
      refine lv_if_eq (tgt := 569) hx0 hb d_La_law_564 (by decide) (fun cc9 => ?_) (fun cc9 => ?_)
      · refine lv_goto (tgt := 1029) hx0 hb d_La_law_569 (by decide) ?_
        exact kk _ _ _ _ _ _ _ _ (by omega) (by omega) hI hZ (lv_sub hl [2, 3, 4, 5, 6] rfl)
      · exact absurd (lgc_self _) cc9
  · exact absurd hth cc9
set_option maxHeartbeats 4000000 in
set_option maxRecDepth 100000 in
theorem law_share_X {p : Program} {l : Launch} {e : Env} {s : State} {m : MethodId} {below : List Frame} {meth : Method} {c : Code} {Q : State → Prop} {H : Heap} {locs : List Loc} {cl sl b L : Nat} {xs : Nat → Int32} {ls : Array Slot} {G1 G2 : zG} {o : Nat} {M1 M2 : Mem} {fo : Nat → Int64} {x4 : Int32} {Inv : Mem → Mem → Prop} (hx0 : p.tables.exec = Jvm.exec) (hb : c.code = code) (hml : c.maxLocals = 8) (hts : ∀ w ∈ zws, w.before #[Value.ref b] s = true) (hown : s.vm.findClass R_La = some m.cls) (hfl : l.flags = pinnedFlags ++ [noTraceFlag]) (hX : va_X b L xs s s.heap) (hbl : b < s.heap.size) (hZX : zX s.heap.size s) (h1 : vp_in (x4 + (1 : Int32)) L) (h2 : vp_in (x4 + (2 : Int32)) L) (h3 : vp_in (x4 + (3 : Int32)) L) (h4 : vp_in (x4 + (4 : Int32)) L) (hcl : cl ≤ 10000) (hsl : sl ≤ 100000) (hZ : ZL G1 G2 o s M1 M2 fo H locs) (hInv : Inv M1 M2) (hl : lv_has ls 8 [(0, .ref b), (1, .ref (G1.1 0)), (2, .ref (G2.1 0)), (3, .ref o), (4, .int x4)]) (r : Int64) (N1 N2 : Mem) (e1 : p_ES_share (xs (Int32.toNatClampNeg (x4 + (1 : Int32)))) (xs (Int32.toNatClampNeg (x4 + (2 : Int32)))) (xs (Int32.toNatClampNeg (x4 + (3 : Int32)))) M1 = some (none, N1)) (e2 : p_Md_share (xs (Int32.toNatClampNeg (x4 + (1 : Int32)))) (xs (Int32.toNatClampNeg (x4 + (2 : Int32)))) (xs (Int32.toNatClampNeg (x4 + (3 : Int32)))) M2 = some (r, N2)) (hth : N2.1 0 0 = 1) (hI : Inv N1 N2) (kk : ∀ (cl' sl' : Nat) (N1 N2 : Mem) (fo' : Nat → Int64) (H1 : Heap) (locs1 : List Loc) (ls1 : Array Slot), cl' ≤ cl + 1 → sl' ≤ sl + 6 → Inv N1 N2 → ZL G1 G2 o s N1 N2 fo' H1 locs1 → lv_has ls1 8 [(0, .ref b), (1, .ref (G1.1 0)), (2, .ref (G2.1 0)), (3, .ref o), (4, .int x4)] → W p l e room_1 s m #[Value.ref b] below meth c H1 locs1 cl' sl' Q (F0 m 1029 ls1 [])) : W p l e room_1 s m #[Value.ref b] below meth c H locs cl sl Q (F0 m 493 ls []) := by
  refine lv_aload_n hx0 hb d_La_law_493 rfl (lv_at hl 1 rfl) ?_
  refine lv_aload_n hx0 hb d_La_law_494 rfl (lv_at hl 0 rfl) ?_
  refine lv_iload hx0 hb d_La_law_495 (lv_at hl 4 rfl) ?_
  refine lv_iconst (v := (1 : Int32)) hx0 hb d_La_law_497 (by decide) ?_
  refine lv_iadd hx0 hb d_La_law_498 ?_
  refine va_sld hx0 hb hX hbl (Nat.not_le.mpr hbl) hZ.2.2.2.2.2.2.2.2 h1 d_La_law_499 ?_
  refine lv_aload_n hx0 hb d_La_law_500 rfl (lv_at hl 0 rfl) ?_
  refine lv_iload hx0 hb d_La_law_501 (lv_at hl 4 rfl) ?_
  refine lv_iconst (v := (2 : Int32)) hx0 hb d_La_law_503 (by decide) ?_
  refine lv_iadd hx0 hb d_La_law_504 ?_
  refine va_sld hx0 hb hX hbl (Nat.not_le.mpr hbl) hZ.2.2.2.2.2.2.2.2 h2 d_La_law_505 ?_
  refine lv_aload_n hx0 hb d_La_law_506 rfl (lv_at hl 0 rfl) ?_
  refine lv_iload hx0 hb d_La_law_507 (lv_at hl 4 rfl) ?_
  refine lv_iconst (v := (3 : Int32)) hx0 hb d_La_law_509 (by decide) ?_
  refine lv_iadd hx0 hb d_La_law_510 ?_
  refine va_sld hx0 hb hX hbl (Nat.not_le.mpr hbl) hZ.2.2.2.2.2.2.2.2 h3 d_La_law_511 ?_
  refine lv_aload_n hx0 hb d_La_law_512 rfl (lv_at hl 3 rfl) ?_
  refine zl_callH (n := 5) [.ref (G1.1 0), .int (xs (Int32.toNatClampNeg (x4 + (1 : Int32)))), .int (xs (Int32.toNatClampNeg (x4 + (2 : Int32)))), .int (xs (Int32.toNatClampNeg (x4 + (3 : Int32)))), .ref o] hx0 hb hml hts hown (chx_La_share l hfl G1 o (xs (Int32.toNatClampNeg (x4 + (1 : Int32)))) (xs (Int32.toNatClampNeg (x4 + (2 : Int32)))) (xs (Int32.toNatClampNeg (x4 + (3 : Int32)))) M1 fo N1 e1) wc_La_share wini_La wst_La_share wm_La_93 (by decide +kernel) hZ hZX rfl rfl ⟨Nat.le_of_ble_eq_true rfl, Nat.le_of_ble_eq_true rfl⟩ ⟨Nat.le_trans (by omega : cl + 1 ≤ 20000) (by decide), Nat.le_trans (by omega : sl + 6 ≤ 200000) (by decide)⟩ hl.1 rfl (Nat.le_of_ble_eq_true rfl) d_La_law_513 (fun H locs hZ => ?_)
  refine lv_istore (lv' := [(5, .int 1), (0, .ref b), (1, .ref (G1.1 0)), (2, .ref (G2.1 0)), (3, .ref o), (4, .int x4)]) hx0 hb d_La_law_516 hl (by decide) rfl (fun ls hl => ?_)
  refine lv_aload_n hx0 hb d_La_law_518 rfl (lv_at hl 3 rfl) ?_
  refine lv_aload_n hx0 hb d_La_law_519 rfl (lv_at hl 1 rfl) ?_
  refine lv_iload hx0 hb d_La_law_520 (lv_at hl 5 rfl) ?_
  refine lv_iconst (v := (1 : Int32)) hx0 hb d_La_law_522 (by decide) ?_
  refine lv_iadd hx0 hb d_La_law_523 ?_
  refine va_sld hx0 hb hX hbl (Nat.not_le.mpr hbl) hZ.2.2.2.2.2.2.2.2 h1 d_La_law_524 ?_
  refine lv_aload_n hx0 hb d_La_law_525 rfl (lv_at hl 1 rfl) ?_
  refine lv_iload hx0 hb d_La_law_526 (lv_at hl 5 rfl) ?_
  refine lv_iconst (v := (2 : Int32)) hx0 hb d_La_law_528 (by decide) ?_
  refine lv_iadd hx0 hb d_La_law_529 ?_
  refine va_sld hx0 hb hX hbl (Nat.not_le.mpr hbl) hZ.2.2.2.2.2.2.2.2 h2 d_La_law_530 ?_
  refine lv_aload_n hx0 hb d_La_law_531 rfl (lv_at hl 1 rfl) ?_
  refine lv_iload hx0 hb d_La_law_532 (lv_at hl 5 rfl) ?_
  refine lv_iconst (v := (3 : Int32)) hx0 hb d_La_law_534 (by decide) ?_
  refine lv_iadd hx0 hb d_La_law_535 ?_
  refine va_sld hx0 hb hX hbl (Nat.not_le.mpr hbl) hZ.2.2.2.2.2.2.2.2 h3 d_La_law_536 ?_
  refine zl_runT (va_runV (n := 3) (As := [.int (xs (Int32.toNatClampNeg (x4 + (1 : Int32)))), .int (xs (Int32.toNatClampNeg (x4 + (2 : Int32)))), .int (xs (Int32.toNatClampNeg (x4 + (3 : Int32))))]) (rest := []) ⟨hx0, hb, hml, hown, hts⟩ (c_Md_share l G2 (xs (Int32.toNatClampNeg (x4 + (1 : Int32)))) (xs (Int32.toNatClampNeg (x4 + (2 : Int32)))) (xs (Int32.toNatClampNeg (x4 + (3 : Int32)))) M2 (r, N2) e2 H.size) ⟨zcB hts wc_Md_share wini_Md wm_La_96 (by decide +kernel) rfl rfl ⟨Nat.le_of_ble_eq_true rfl, Nat.le_of_ble_eq_true rfl⟩, hts _ wi_Md_share, hts _ ws_Md_share⟩ ⟨zP_blindT, va_recv hZ.2.2.2.1.1 hZ.2.2.2.2.2.1 (ci := 7) (q0 := 0) rfl rfl, zl_PT hZ⟩ rfl rfl hl.1 rfl (lv_room (Nat.le_of_ble_eq_true rfl)) d_La_law_537 ⟨Nat.le_trans (by omega : (cl + 1) + 0 ≤ 20000) (by decide), Nat.le_trans (by omega : (sl + 6) + 0 ≤ 200000) (by decide)⟩) hZ (fun H locs hZ => ?_)
  refine lv_lstore (lv' := [(6, .long r), (5, .int 1), (0, .ref b), (1, .ref (G1.1 0)), (2, .ref (G2.1 0)), (3, .ref o), (4, .int x4)]) hx0 hb d_La_law_540 hl (by decide) rfl (fun ls hl => ?_)
  refine lv_aload_n hx0 hb d_La_law_542 rfl (lv_at hl 4 rfl) ?_
  refine zl_runT (va_runV (n := 0) (As := []) (rest := []) ⟨hx0, hb, hml, hown, hts⟩ (c_Md_thrown l G2 N2 (N2.1 0 0) rfl H.size) ⟨zcB hts wc_Md_thrown wini_Md wm_La_90 (by decide +kernel) rfl rfl ⟨Nat.le_of_ble_eq_true rfl, Nat.le_of_ble_eq_true rfl⟩, hts _ wi_Md_thrown, hts _ ws_Md_thrown⟩ ⟨zP_blindT, va_recv hZ.2.2.2.1.1 hZ.2.2.2.2.2.1 (ci := 7) (q0 := 0) rfl rfl, zl_PT hZ⟩ rfl rfl hl.1 rfl (lv_room (Nat.le_of_ble_eq_true rfl)) d_La_law_543 ⟨Nat.le_trans (by omega : (cl + 1) + 0 ≤ 20000) (by decide), Nat.le_trans (by omega : (sl + 6) + 0 ≤ 200000) (by decide)⟩) hZ (fun H locs hZ => ?_)
  refine lv_iload hx0 hb d_La_law_546 (lv_at hl 1 rfl) ?_
  refine lv_icmp_eq (tgt := 553) hx0 hb d_La_law_548 (by decide) (fun cc9 => ?_) (fun cc9 => ?_)
  · refine lv_iload hx0 hb d_La_law_553 (lv_at hl 1 rfl) ?_
    refine lv_if_ne (tgt := 569) hx0 hb d_La_law_555 (by decide) (fun cc9 => ?_) (fun cc9 => ?_)
    · refine lv_goto (tgt := 1029) hx0 hb d_La_law_569 (by decide) ?_
      exact kk _ _ _ _ _ _ _ _ (by omega) (by omega) hI hZ (lv_sub hl [2, 3, 4, 5, 6] rfl)
    · exact absurd cc9 (by decide)
  · exact absurd hth cc9
theorem law_share {p : Program} {l : Launch} {e : Env} {s : State} {m : MethodId} {below : List Frame} {meth : Method} {c : Code} {Q : State → Prop} {H : Heap} {locs : List Loc} {cl sl b L : Nat} {xs : Nat → Int32} {ls : Array Slot} {G1 G2 : zG} {o : Nat} {M1 M2 : Mem} {fo : Nat → Int64} {x4 : Int32} {Inv : Mem → Mem → Prop} (hx0 : p.tables.exec = Jvm.exec) (hb : c.code = code) (hml : c.maxLocals = 8) (hts : ∀ w ∈ zws, w.before #[Value.ref b] s = true) (hown : s.vm.findClass R_La = some m.cls) (hfl : l.flags = pinnedFlags ++ [noTraceFlag]) (hX : va_X b L xs s s.heap) (hbl : b < s.heap.size) (hZX : zX s.heap.size s) (h1 : vp_in (x4 + (1 : Int32)) L) (h2 : vp_in (x4 + (2 : Int32)) L) (h3 : vp_in (x4 + (3 : Int32)) L) (h4 : vp_in (x4 + (4 : Int32)) L) (hcl : cl ≤ 10000) (hsl : sl ≤ 100000) (hZ : ZL G1 G2 o s M1 M2 fo H locs) (hInv : Inv M1 M2) (hl : lv_has ls 8 [(0, .ref b), (1, .ref (G1.1 0)), (2, .ref (G2.1 0)), (3, .ref o), (4, .int x4)]) (hG : Gd_share Inv) (kk : ∀ (cl' sl' : Nat) (N1 N2 : Mem) (fo' : Nat → Int64) (H1 : Heap) (locs1 : List Loc) (ls1 : Array Slot), cl' ≤ cl + 1 → sl' ≤ sl + 6 → Inv N1 N2 → ZL G1 G2 o s N1 N2 fo' H1 locs1 → lv_has ls1 8 [(0, .ref b), (1, .ref (G1.1 0)), (2, .ref (G2.1 0)), (3, .ref o), (4, .int x4)] → W p l e room_1 s m #[Value.ref b] below meth c H1 locs1 cl' sl' Q (F0 m 1029 ls1 [])) : W p l e room_1 s m #[Value.ref b] below meth c H locs cl sl Q (F0 m 493 ls []) := by
  rcases hG M1 M2 hInv (xs (Int32.toNatClampNeg (x4 + (1 : Int32)))) (xs (Int32.toNatClampNeg (x4 + (2 : Int32)))) (xs (Int32.toNatClampNeg (x4 + (3 : Int32)))) with ⟨r, N1, N2, e1, e2, hth, hI⟩ | ⟨r, N1, N2, e1, e2, hth, hI⟩
  · exact law_share_N hx0 hb hml hts hown hfl hX hbl hZX h1 h2 h3 h4 hcl hsl hZ hInv hl r N1 N2 e1 e2 hth hI kk
  · exact law_share_X hx0 hb hml hts hown hfl hX hbl hZX h1 h2 h3 h4 hcl hsl hZ hInv hl r N1 N2 e1 e2 hth hI kk
set_option maxHeartbeats 4000000 in
set_option maxRecDepth 100000 in
theorem law_both_N {p : Program} {l : Launch} {e : Env} {s : State} {m : MethodId} {below : List Frame} {meth : Method} {c : Code} {Q : State → Prop} {H : Heap} {locs : List Loc} {cl sl b L : Nat} {xs : Nat → Int32} {ls : Array Slot} {G1 G2 : zG} {o : Nat} {M1 M2 : Mem} {fo : Nat → Int64} {x4 : Int32} {Inv : Mem → Mem → Prop} (hx0 : p.tables.exec = Jvm.exec) (hb : c.code = code) (hml : c.maxLocals = 8) (hts : ∀ w ∈ zws, w.before #[Value.ref b] s = true) (hown : s.vm.findClass R_La = some m.cls) (hfl : l.flags = pinnedFlags ++ [noTraceFlag]) (hX : va_X b L xs s s.heap) (hbl : b < s.heap.size) (hZX : zX s.heap.size s) (h1 : vp_in (x4 + (1 : Int32)) L) (h2 : vp_in (x4 + (2 : Int32)) L) (h3 : vp_in (x4 + (3 : Int32)) L) (h4 : vp_in (x4 + (4 : Int32)) L) (hcl : cl ≤ 10000) (hsl : sl ≤ 100000) (hZ : ZL G1 G2 o s M1 M2 fo H locs) (hInv : Inv M1 M2) (hl : lv_has ls 8 [(0, .ref b), (1, .ref (G1.1 0)), (2, .ref (G2.1 0)), (3, .ref o), (4, .int x4)]) (r : Int64) (N1 N2 : Mem) (e1 : p_ES_both (xs (Int32.toNatClampNeg (x4 + (1 : Int32)))) (xs (Int32.toNatClampNeg (x4 + (2 : Int32)))) (xs (Int32.toNatClampNeg (x4 + (3 : Int32)))) M1 = some (some r, N1)) (e2 : p_Md_both (xs (Int32.toNatClampNeg (x4 + (1 : Int32)))) (xs (Int32.toNatClampNeg (x4 + (2 : Int32)))) (xs (Int32.toNatClampNeg (x4 + (3 : Int32)))) M2 = some (r, N2)) (hth : N2.1 0 0 = 0) (hI : Inv N1 N2) (kk : ∀ (cl' sl' : Nat) (N1 N2 : Mem) (fo' : Nat → Int64) (H1 : Heap) (locs1 : List Loc) (ls1 : Array Slot), cl' ≤ cl + 1 → sl' ≤ sl + 6 → Inv N1 N2 → ZL G1 G2 o s N1 N2 fo' H1 locs1 → lv_has ls1 8 [(0, .ref b), (1, .ref (G1.1 0)), (2, .ref (G2.1 0)), (3, .ref o), (4, .int x4)] → W p l e room_1 s m #[Value.ref b] below meth c H1 locs1 cl' sl' Q (F0 m 1029 ls1 [])) : W p l e room_1 s m #[Value.ref b] below meth c H locs cl sl Q (F0 m 572 ls []) := by
  refine lv_aload_n hx0 hb d_La_law_572 rfl (lv_at hl 1 rfl) ?_
  refine lv_aload_n hx0 hb d_La_law_573 rfl (lv_at hl 0 rfl) ?_
  refine lv_iload hx0 hb d_La_law_574 (lv_at hl 4 rfl) ?_
  refine lv_iconst (v := (1 : Int32)) hx0 hb d_La_law_576 (by decide) ?_
  refine lv_iadd hx0 hb d_La_law_577 ?_
  refine va_sld hx0 hb hX hbl (Nat.not_le.mpr hbl) hZ.2.2.2.2.2.2.2.2 h1 d_La_law_578 ?_
  refine lv_aload_n hx0 hb d_La_law_579 rfl (lv_at hl 0 rfl) ?_
  refine lv_iload hx0 hb d_La_law_580 (lv_at hl 4 rfl) ?_
  refine lv_iconst (v := (2 : Int32)) hx0 hb d_La_law_582 (by decide) ?_
  refine lv_iadd hx0 hb d_La_law_583 ?_
  refine va_sld hx0 hb hX hbl (Nat.not_le.mpr hbl) hZ.2.2.2.2.2.2.2.2 h2 d_La_law_584 ?_
  refine lv_aload_n hx0 hb d_La_law_585 rfl (lv_at hl 0 rfl) ?_
  refine lv_iload hx0 hb d_La_law_586 (lv_at hl 4 rfl) ?_
  refine lv_iconst (v := (3 : Int32)) hx0 hb d_La_law_588 (by decide) ?_
  refine lv_iadd hx0 hb d_La_law_589 ?_
  refine va_sld hx0 hb hX hbl (Nat.not_le.mpr hbl) hZ.2.2.2.2.2.2.2.2 h3 d_La_law_590 ?_
  refine lv_aload_n hx0 hb d_La_law_591 rfl (lv_at hl 3 rfl) ?_
  refine zl_callH (n := 5) [.ref (G1.1 0), .int (xs (Int32.toNatClampNeg (x4 + (1 : Int32)))), .int (xs (Int32.toNatClampNeg (x4 + (2 : Int32)))), .int (xs (Int32.toNatClampNeg (x4 + (3 : Int32)))), .ref o] hx0 hb hml hts hown (ch_La_both l G1 o (xs (Int32.toNatClampNeg (x4 + (1 : Int32)))) (xs (Int32.toNatClampNeg (x4 + (2 : Int32)))) (xs (Int32.toNatClampNeg (x4 + (3 : Int32)))) M1 fo r N1 e1) wc_La_both wini_La wst_La_both wm_La_97 (by decide +kernel) hZ hZX rfl rfl ⟨Nat.le_of_ble_eq_true rfl, Nat.le_of_ble_eq_true rfl⟩ ⟨Nat.le_trans (by omega : cl + 1 ≤ 20000) (by decide), Nat.le_trans (by omega : sl + 6 ≤ 200000) (by decide)⟩ hl.1 rfl (Nat.le_of_ble_eq_true rfl) d_La_law_592 (fun H locs hZ => ?_)
  refine lv_istore (lv' := [(5, .int 0), (0, .ref b), (1, .ref (G1.1 0)), (2, .ref (G2.1 0)), (3, .ref o), (4, .int x4)]) hx0 hb d_La_law_595 hl (by decide) rfl (fun ls hl => ?_)
  refine lv_aload_n hx0 hb d_La_law_597 rfl (lv_at hl 3 rfl) ?_
  refine lv_aload_n hx0 hb d_La_law_598 rfl (lv_at hl 1 rfl) ?_
  refine lv_iload hx0 hb d_La_law_599 (lv_at hl 5 rfl) ?_
  refine lv_iconst (v := (1 : Int32)) hx0 hb d_La_law_601 (by decide) ?_
  refine lv_iadd hx0 hb d_La_law_602 ?_
  refine va_sld hx0 hb hX hbl (Nat.not_le.mpr hbl) hZ.2.2.2.2.2.2.2.2 h1 d_La_law_603 ?_
  refine lv_aload_n hx0 hb d_La_law_604 rfl (lv_at hl 1 rfl) ?_
  refine lv_iload hx0 hb d_La_law_605 (lv_at hl 5 rfl) ?_
  refine lv_iconst (v := (2 : Int32)) hx0 hb d_La_law_607 (by decide) ?_
  refine lv_iadd hx0 hb d_La_law_608 ?_
  refine va_sld hx0 hb hX hbl (Nat.not_le.mpr hbl) hZ.2.2.2.2.2.2.2.2 h2 d_La_law_609 ?_
  refine lv_aload_n hx0 hb d_La_law_610 rfl (lv_at hl 1 rfl) ?_
  refine lv_iload hx0 hb d_La_law_611 (lv_at hl 5 rfl) ?_
  refine lv_iconst (v := (3 : Int32)) hx0 hb d_La_law_613 (by decide) ?_
  refine lv_iadd hx0 hb d_La_law_614 ?_
  refine va_sld hx0 hb hX hbl (Nat.not_le.mpr hbl) hZ.2.2.2.2.2.2.2.2 h3 d_La_law_615 ?_
  refine zl_runT (va_runV (n := 3) (As := [.int (xs (Int32.toNatClampNeg (x4 + (1 : Int32)))), .int (xs (Int32.toNatClampNeg (x4 + (2 : Int32)))), .int (xs (Int32.toNatClampNeg (x4 + (3 : Int32))))]) (rest := []) ⟨hx0, hb, hml, hown, hts⟩ (c_Md_both l G2 (xs (Int32.toNatClampNeg (x4 + (1 : Int32)))) (xs (Int32.toNatClampNeg (x4 + (2 : Int32)))) (xs (Int32.toNatClampNeg (x4 + (3 : Int32)))) M2 (r, N2) e2 H.size) ⟨zcB hts wc_Md_both wini_Md wm_La_99 (by decide +kernel) rfl rfl ⟨Nat.le_of_ble_eq_true rfl, Nat.le_of_ble_eq_true rfl⟩, hts _ wi_Md_both, hts _ ws_Md_both⟩ ⟨zP_blindT, va_recv hZ.2.2.2.1.1 hZ.2.2.2.2.2.1 (ci := 7) (q0 := 0) rfl rfl, zl_PT hZ⟩ rfl rfl hl.1 rfl (lv_room (Nat.le_of_ble_eq_true rfl)) d_La_law_616 ⟨Nat.le_trans (by omega : (cl + 1) + 0 ≤ 20000) (by decide), Nat.le_trans (by omega : (sl + 6) + 0 ≤ 200000) (by decide)⟩) hZ (fun H locs hZ => ?_)
  refine lv_lstore (lv' := [(6, .long r), (5, .int 0), (0, .ref b), (1, .ref (G1.1 0)), (2, .ref (G2.1 0)), (3, .ref o), (4, .int x4)]) hx0 hb d_La_law_619 hl (by decide) rfl (fun ls hl => ?_)
  refine lv_aload_n hx0 hb d_La_law_621 rfl (lv_at hl 4 rfl) ?_
  refine zl_runT (va_runV (n := 0) (As := []) (rest := []) ⟨hx0, hb, hml, hown, hts⟩ (c_Md_thrown l G2 N2 (N2.1 0 0) rfl H.size) ⟨zcB hts wc_Md_thrown wini_Md wm_La_90 (by decide +kernel) rfl rfl ⟨Nat.le_of_ble_eq_true rfl, Nat.le_of_ble_eq_true rfl⟩, hts _ wi_Md_thrown, hts _ ws_Md_thrown⟩ ⟨zP_blindT, va_recv hZ.2.2.2.1.1 hZ.2.2.2.2.2.1 (ci := 7) (q0 := 0) rfl rfl, zl_PT hZ⟩ rfl rfl hl.1 rfl (lv_room (Nat.le_of_ble_eq_true rfl)) d_La_law_622 ⟨Nat.le_trans (by omega : (cl + 1) + 0 ≤ 20000) (by decide), Nat.le_trans (by omega : (sl + 6) + 0 ≤ 200000) (by decide)⟩) hZ (fun H locs hZ => ?_)
  refine lv_iload hx0 hb d_La_law_625 (lv_at hl 1 rfl) ?_
  refine lv_icmp_eq (tgt := 632) hx0 hb d_La_law_627 (by decide) (fun cc9 => ?_) (fun cc9 => ?_)
  · refine lv_iload hx0 hb d_La_law_632 (lv_at hl 1 rfl) ?_
    refine lv_if_ne (tgt := 648) hx0 hb d_La_law_634 (by decide) (fun cc9 => ?_) (fun cc9 => ?_)
    · exact absurd rfl cc9
    · refine lv_aload_n hx0 hb d_La_law_637 rfl (lv_at hl 5 rfl) ?_
      refine lv_iconst (v := (0 : Int32)) hx0 hb d_La_law_638 (by decide) ?_
      refine va_lald hx0 hb hZ.2.2.1.1 hZ.2.2.2.2.2.2.1 0 1 rfl rfl (vp_in_nI (n := 0) (by decide) (by decide)) d_La_law_639 ?_
      refine lv_lload hx0 hb d_La_law_640 (lv_at hl 0 rfl) ?_
      refine W.lcmp hx0 hb d_La_law_642 ?_
      refine lv_if_eq (tgt := 648) hx0 hb d_La_law_643 (by decide) (fun cc9 => ?_) (fun cc9 => ?_)
      · refine lv_goto (tgt := 1029) hx0 hb d_La_law_648 (by decide) ?_
        exact kk _ _ _ _ _ _ _ _ (by omega) (by omega) hI hZ (lv_sub hl [2, 3, 4, 5, 6] rfl)
      · exact absurd (lgc_self _) cc9
  · exact absurd hth cc9
set_option maxHeartbeats 4000000 in
set_option maxRecDepth 100000 in
theorem law_both_X {p : Program} {l : Launch} {e : Env} {s : State} {m : MethodId} {below : List Frame} {meth : Method} {c : Code} {Q : State → Prop} {H : Heap} {locs : List Loc} {cl sl b L : Nat} {xs : Nat → Int32} {ls : Array Slot} {G1 G2 : zG} {o : Nat} {M1 M2 : Mem} {fo : Nat → Int64} {x4 : Int32} {Inv : Mem → Mem → Prop} (hx0 : p.tables.exec = Jvm.exec) (hb : c.code = code) (hml : c.maxLocals = 8) (hts : ∀ w ∈ zws, w.before #[Value.ref b] s = true) (hown : s.vm.findClass R_La = some m.cls) (hfl : l.flags = pinnedFlags ++ [noTraceFlag]) (hX : va_X b L xs s s.heap) (hbl : b < s.heap.size) (hZX : zX s.heap.size s) (h1 : vp_in (x4 + (1 : Int32)) L) (h2 : vp_in (x4 + (2 : Int32)) L) (h3 : vp_in (x4 + (3 : Int32)) L) (h4 : vp_in (x4 + (4 : Int32)) L) (hcl : cl ≤ 10000) (hsl : sl ≤ 100000) (hZ : ZL G1 G2 o s M1 M2 fo H locs) (hInv : Inv M1 M2) (hl : lv_has ls 8 [(0, .ref b), (1, .ref (G1.1 0)), (2, .ref (G2.1 0)), (3, .ref o), (4, .int x4)]) (r : Int64) (N1 N2 : Mem) (e1 : p_ES_both (xs (Int32.toNatClampNeg (x4 + (1 : Int32)))) (xs (Int32.toNatClampNeg (x4 + (2 : Int32)))) (xs (Int32.toNatClampNeg (x4 + (3 : Int32)))) M1 = some (none, N1)) (e2 : p_Md_both (xs (Int32.toNatClampNeg (x4 + (1 : Int32)))) (xs (Int32.toNatClampNeg (x4 + (2 : Int32)))) (xs (Int32.toNatClampNeg (x4 + (3 : Int32)))) M2 = some (r, N2)) (hth : N2.1 0 0 = 1) (hI : Inv N1 N2) (kk : ∀ (cl' sl' : Nat) (N1 N2 : Mem) (fo' : Nat → Int64) (H1 : Heap) (locs1 : List Loc) (ls1 : Array Slot), cl' ≤ cl + 1 → sl' ≤ sl + 6 → Inv N1 N2 → ZL G1 G2 o s N1 N2 fo' H1 locs1 → lv_has ls1 8 [(0, .ref b), (1, .ref (G1.1 0)), (2, .ref (G2.1 0)), (3, .ref o), (4, .int x4)] → W p l e room_1 s m #[Value.ref b] below meth c H1 locs1 cl' sl' Q (F0 m 1029 ls1 [])) : W p l e room_1 s m #[Value.ref b] below meth c H locs cl sl Q (F0 m 572 ls []) := by
  refine lv_aload_n hx0 hb d_La_law_572 rfl (lv_at hl 1 rfl) ?_
  refine lv_aload_n hx0 hb d_La_law_573 rfl (lv_at hl 0 rfl) ?_
  refine lv_iload hx0 hb d_La_law_574 (lv_at hl 4 rfl) ?_
  refine lv_iconst (v := (1 : Int32)) hx0 hb d_La_law_576 (by decide) ?_
  refine lv_iadd hx0 hb d_La_law_577 ?_
  refine va_sld hx0 hb hX hbl (Nat.not_le.mpr hbl) hZ.2.2.2.2.2.2.2.2 h1 d_La_law_578 ?_
  refine lv_aload_n hx0 hb d_La_law_579 rfl (lv_at hl 0 rfl) ?_
  refine lv_iload hx0 hb d_La_law_580 (lv_at hl 4 rfl) ?_
  refine lv_iconst (v := (2 : Int32)) hx0 hb d_La_law_582 (by decide) ?_
  refine lv_iadd hx0 hb d_La_law_583 ?_
  refine va_sld hx0 hb hX hbl (Nat.not_le.mpr hbl) hZ.2.2.2.2.2.2.2.2 h2 d_La_law_584 ?_
  refine lv_aload_n hx0 hb d_La_law_585 rfl (lv_at hl 0 rfl) ?_
  refine lv_iload hx0 hb d_La_law_586 (lv_at hl 4 rfl) ?_
  refine lv_iconst (v := (3 : Int32)) hx0 hb d_La_law_588 (by decide) ?_
  refine lv_iadd hx0 hb d_La_law_589 ?_
  refine va_sld hx0 hb hX hbl (Nat.not_le.mpr hbl) hZ.2.2.2.2.2.2.2.2 h3 d_La_law_590 ?_
  refine lv_aload_n hx0 hb d_La_law_591 rfl (lv_at hl 3 rfl) ?_
  refine zl_callH (n := 5) [.ref (G1.1 0), .int (xs (Int32.toNatClampNeg (x4 + (1 : Int32)))), .int (xs (Int32.toNatClampNeg (x4 + (2 : Int32)))), .int (xs (Int32.toNatClampNeg (x4 + (3 : Int32)))), .ref o] hx0 hb hml hts hown (chx_La_both l hfl G1 o (xs (Int32.toNatClampNeg (x4 + (1 : Int32)))) (xs (Int32.toNatClampNeg (x4 + (2 : Int32)))) (xs (Int32.toNatClampNeg (x4 + (3 : Int32)))) M1 fo N1 e1) wc_La_both wini_La wst_La_both wm_La_97 (by decide +kernel) hZ hZX rfl rfl ⟨Nat.le_of_ble_eq_true rfl, Nat.le_of_ble_eq_true rfl⟩ ⟨Nat.le_trans (by omega : cl + 1 ≤ 20000) (by decide), Nat.le_trans (by omega : sl + 6 ≤ 200000) (by decide)⟩ hl.1 rfl (Nat.le_of_ble_eq_true rfl) d_La_law_592 (fun H locs hZ => ?_)
  refine lv_istore (lv' := [(5, .int 1), (0, .ref b), (1, .ref (G1.1 0)), (2, .ref (G2.1 0)), (3, .ref o), (4, .int x4)]) hx0 hb d_La_law_595 hl (by decide) rfl (fun ls hl => ?_)
  refine lv_aload_n hx0 hb d_La_law_597 rfl (lv_at hl 3 rfl) ?_
  refine lv_aload_n hx0 hb d_La_law_598 rfl (lv_at hl 1 rfl) ?_
  refine lv_iload hx0 hb d_La_law_599 (lv_at hl 5 rfl) ?_
  refine lv_iconst (v := (1 : Int32)) hx0 hb d_La_law_601 (by decide) ?_
  refine lv_iadd hx0 hb d_La_law_602 ?_
  refine va_sld hx0 hb hX hbl (Nat.not_le.mpr hbl) hZ.2.2.2.2.2.2.2.2 h1 d_La_law_603 ?_
  refine lv_aload_n hx0 hb d_La_law_604 rfl (lv_at hl 1 rfl) ?_
  refine lv_iload hx0 hb d_La_law_605 (lv_at hl 5 rfl) ?_
  refine lv_iconst (v := (2 : Int32)) hx0 hb d_La_law_607 (by decide) ?_
  refine lv_iadd hx0 hb d_La_law_608 ?_
  refine va_sld hx0 hb hX hbl (Nat.not_le.mpr hbl) hZ.2.2.2.2.2.2.2.2 h2 d_La_law_609 ?_
  refine lv_aload_n hx0 hb d_La_law_610 rfl (lv_at hl 1 rfl) ?_
  refine lv_iload hx0 hb d_La_law_611 (lv_at hl 5 rfl) ?_
  refine lv_iconst (v := (3 : Int32)) hx0 hb d_La_law_613 (by decide) ?_
  refine lv_iadd hx0 hb d_La_law_614 ?_
  refine va_sld hx0 hb hX hbl (Nat.not_le.mpr hbl) hZ.2.2.2.2.2.2.2.2 h3 d_La_law_615 ?_
  refine zl_runT (va_runV (n := 3) (As := [.int (xs (Int32.toNatClampNeg (x4 + (1 : Int32)))), .int (xs (Int32.toNatClampNeg (x4 + (2 : Int32)))), .int (xs (Int32.toNatClampNeg (x4 + (3 : Int32))))]) (rest := []) ⟨hx0, hb, hml, hown, hts⟩ (c_Md_both l G2 (xs (Int32.toNatClampNeg (x4 + (1 : Int32)))) (xs (Int32.toNatClampNeg (x4 + (2 : Int32)))) (xs (Int32.toNatClampNeg (x4 + (3 : Int32)))) M2 (r, N2) e2 H.size) ⟨zcB hts wc_Md_both wini_Md wm_La_99 (by decide +kernel) rfl rfl ⟨Nat.le_of_ble_eq_true rfl, Nat.le_of_ble_eq_true rfl⟩, hts _ wi_Md_both, hts _ ws_Md_both⟩ ⟨zP_blindT, va_recv hZ.2.2.2.1.1 hZ.2.2.2.2.2.1 (ci := 7) (q0 := 0) rfl rfl, zl_PT hZ⟩ rfl rfl hl.1 rfl (lv_room (Nat.le_of_ble_eq_true rfl)) d_La_law_616 ⟨Nat.le_trans (by omega : (cl + 1) + 0 ≤ 20000) (by decide), Nat.le_trans (by omega : (sl + 6) + 0 ≤ 200000) (by decide)⟩) hZ (fun H locs hZ => ?_)
  refine lv_lstore (lv' := [(6, .long r), (5, .int 1), (0, .ref b), (1, .ref (G1.1 0)), (2, .ref (G2.1 0)), (3, .ref o), (4, .int x4)]) hx0 hb d_La_law_619 hl (by decide) rfl (fun ls hl => ?_)
  refine lv_aload_n hx0 hb d_La_law_621 rfl (lv_at hl 4 rfl) ?_
  refine zl_runT (va_runV (n := 0) (As := []) (rest := []) ⟨hx0, hb, hml, hown, hts⟩ (c_Md_thrown l G2 N2 (N2.1 0 0) rfl H.size) ⟨zcB hts wc_Md_thrown wini_Md wm_La_90 (by decide +kernel) rfl rfl ⟨Nat.le_of_ble_eq_true rfl, Nat.le_of_ble_eq_true rfl⟩, hts _ wi_Md_thrown, hts _ ws_Md_thrown⟩ ⟨zP_blindT, va_recv hZ.2.2.2.1.1 hZ.2.2.2.2.2.1 (ci := 7) (q0 := 0) rfl rfl, zl_PT hZ⟩ rfl rfl hl.1 rfl (lv_room (Nat.le_of_ble_eq_true rfl)) d_La_law_622 ⟨Nat.le_trans (by omega : (cl + 1) + 0 ≤ 20000) (by decide), Nat.le_trans (by omega : (sl + 6) + 0 ≤ 200000) (by decide)⟩) hZ (fun H locs hZ => ?_)
  refine lv_iload hx0 hb d_La_law_625 (lv_at hl 1 rfl) ?_
  refine lv_icmp_eq (tgt := 632) hx0 hb d_La_law_627 (by decide) (fun cc9 => ?_) (fun cc9 => ?_)
  · refine lv_iload hx0 hb d_La_law_632 (lv_at hl 1 rfl) ?_
    refine lv_if_ne (tgt := 648) hx0 hb d_La_law_634 (by decide) (fun cc9 => ?_) (fun cc9 => ?_)
    · refine lv_goto (tgt := 1029) hx0 hb d_La_law_648 (by decide) ?_
      exact kk _ _ _ _ _ _ _ _ (by omega) (by omega) hI hZ (lv_sub hl [2, 3, 4, 5, 6] rfl)
    · exact absurd cc9 (by decide)
  · exact absurd hth cc9
theorem law_both {p : Program} {l : Launch} {e : Env} {s : State} {m : MethodId} {below : List Frame} {meth : Method} {c : Code} {Q : State → Prop} {H : Heap} {locs : List Loc} {cl sl b L : Nat} {xs : Nat → Int32} {ls : Array Slot} {G1 G2 : zG} {o : Nat} {M1 M2 : Mem} {fo : Nat → Int64} {x4 : Int32} {Inv : Mem → Mem → Prop} (hx0 : p.tables.exec = Jvm.exec) (hb : c.code = code) (hml : c.maxLocals = 8) (hts : ∀ w ∈ zws, w.before #[Value.ref b] s = true) (hown : s.vm.findClass R_La = some m.cls) (hfl : l.flags = pinnedFlags ++ [noTraceFlag]) (hX : va_X b L xs s s.heap) (hbl : b < s.heap.size) (hZX : zX s.heap.size s) (h1 : vp_in (x4 + (1 : Int32)) L) (h2 : vp_in (x4 + (2 : Int32)) L) (h3 : vp_in (x4 + (3 : Int32)) L) (h4 : vp_in (x4 + (4 : Int32)) L) (hcl : cl ≤ 10000) (hsl : sl ≤ 100000) (hZ : ZL G1 G2 o s M1 M2 fo H locs) (hInv : Inv M1 M2) (hl : lv_has ls 8 [(0, .ref b), (1, .ref (G1.1 0)), (2, .ref (G2.1 0)), (3, .ref o), (4, .int x4)]) (hG : Gd_both Inv) (kk : ∀ (cl' sl' : Nat) (N1 N2 : Mem) (fo' : Nat → Int64) (H1 : Heap) (locs1 : List Loc) (ls1 : Array Slot), cl' ≤ cl + 1 → sl' ≤ sl + 6 → Inv N1 N2 → ZL G1 G2 o s N1 N2 fo' H1 locs1 → lv_has ls1 8 [(0, .ref b), (1, .ref (G1.1 0)), (2, .ref (G2.1 0)), (3, .ref o), (4, .int x4)] → W p l e room_1 s m #[Value.ref b] below meth c H1 locs1 cl' sl' Q (F0 m 1029 ls1 [])) : W p l e room_1 s m #[Value.ref b] below meth c H locs cl sl Q (F0 m 572 ls []) := by
  rcases hG M1 M2 hInv (xs (Int32.toNatClampNeg (x4 + (1 : Int32)))) (xs (Int32.toNatClampNeg (x4 + (2 : Int32)))) (xs (Int32.toNatClampNeg (x4 + (3 : Int32)))) with ⟨r, N1, N2, e1, e2, hth, hI⟩ | ⟨r, N1, N2, e1, e2, hth, hI⟩
  · exact law_both_N hx0 hb hml hts hown hfl hX hbl hZX h1 h2 h3 h4 hcl hsl hZ hInv hl r N1 N2 e1 e2 hth hI kk
  · exact law_both_X hx0 hb hml hts hown hfl hX hbl hZX h1 h2 h3 h4 hcl hsl hZ hInv hl r N1 N2 e1 e2 hth hI kk
set_option maxHeartbeats 4000000 in
set_option maxRecDepth 100000 in
theorem law_drawn_N {p : Program} {l : Launch} {e : Env} {s : State} {m : MethodId} {below : List Frame} {meth : Method} {c : Code} {Q : State → Prop} {H : Heap} {locs : List Loc} {cl sl b L : Nat} {xs : Nat → Int32} {ls : Array Slot} {G1 G2 : zG} {o : Nat} {M1 M2 : Mem} {fo : Nat → Int64} {x4 : Int32} {Inv : Mem → Mem → Prop} (hx0 : p.tables.exec = Jvm.exec) (hb : c.code = code) (hml : c.maxLocals = 8) (hts : ∀ w ∈ zws, w.before #[Value.ref b] s = true) (hown : s.vm.findClass R_La = some m.cls) (hfl : l.flags = pinnedFlags ++ [noTraceFlag]) (hX : va_X b L xs s s.heap) (hbl : b < s.heap.size) (hZX : zX s.heap.size s) (h1 : vp_in (x4 + (1 : Int32)) L) (h2 : vp_in (x4 + (2 : Int32)) L) (h3 : vp_in (x4 + (3 : Int32)) L) (h4 : vp_in (x4 + (4 : Int32)) L) (hcl : cl ≤ 10000) (hsl : sl ≤ 100000) (hZ : ZL G1 G2 o s M1 M2 fo H locs) (hInv : Inv M1 M2) (hl : lv_has ls 8 [(0, .ref b), (1, .ref (G1.1 0)), (2, .ref (G2.1 0)), (3, .ref o), (4, .int x4)]) (r : Int64) (N1 N2 : Mem) (e1 : p_ES_drawn (xs (Int32.toNatClampNeg (x4 + (1 : Int32)))) (xs (Int32.toNatClampNeg (x4 + (2 : Int32)))) (xs (Int32.toNatClampNeg (x4 + (3 : Int32)))) (xs (Int32.toNatClampNeg (x4 + (4 : Int32)))) M1 = some (some r, N1)) (e2 : p_Md_drawn (xs (Int32.toNatClampNeg (x4 + (1 : Int32)))) (xs (Int32.toNatClampNeg (x4 + (2 : Int32)))) (xs (Int32.toNatClampNeg (x4 + (3 : Int32)))) (xs (Int32.toNatClampNeg (x4 + (4 : Int32)))) M2 = some (r, N2)) (hth : N2.1 0 0 = 0) (hI : Inv N1 N2) (kk : ∀ (cl' sl' : Nat) (N1 N2 : Mem) (fo' : Nat → Int64) (H1 : Heap) (locs1 : List Loc) (ls1 : Array Slot), cl' ≤ cl + 1 → sl' ≤ sl + 6 → Inv N1 N2 → ZL G1 G2 o s N1 N2 fo' H1 locs1 → lv_has ls1 8 [(0, .ref b), (1, .ref (G1.1 0)), (2, .ref (G2.1 0)), (3, .ref o), (4, .int x4)] → W p l e room_1 s m #[Value.ref b] below meth c H1 locs1 cl' sl' Q (F0 m 1029 ls1 [])) : W p l e room_1 s m #[Value.ref b] below meth c H locs cl sl Q (F0 m 651 ls []) := by
  refine lv_aload_n hx0 hb d_La_law_651 rfl (lv_at hl 1 rfl) ?_
  refine lv_aload_n hx0 hb d_La_law_652 rfl (lv_at hl 0 rfl) ?_
  refine lv_iload hx0 hb d_La_law_653 (lv_at hl 4 rfl) ?_
  refine lv_iconst (v := (1 : Int32)) hx0 hb d_La_law_655 (by decide) ?_
  refine lv_iadd hx0 hb d_La_law_656 ?_
  refine va_sld hx0 hb hX hbl (Nat.not_le.mpr hbl) hZ.2.2.2.2.2.2.2.2 h1 d_La_law_657 ?_
  refine lv_aload_n hx0 hb d_La_law_658 rfl (lv_at hl 0 rfl) ?_
  refine lv_iload hx0 hb d_La_law_659 (lv_at hl 4 rfl) ?_
  refine lv_iconst (v := (2 : Int32)) hx0 hb d_La_law_661 (by decide) ?_
  refine lv_iadd hx0 hb d_La_law_662 ?_
  refine va_sld hx0 hb hX hbl (Nat.not_le.mpr hbl) hZ.2.2.2.2.2.2.2.2 h2 d_La_law_663 ?_
  refine lv_aload_n hx0 hb d_La_law_664 rfl (lv_at hl 0 rfl) ?_
  refine lv_iload hx0 hb d_La_law_665 (lv_at hl 4 rfl) ?_
  refine lv_iconst (v := (3 : Int32)) hx0 hb d_La_law_667 (by decide) ?_
  refine lv_iadd hx0 hb d_La_law_668 ?_
  refine va_sld hx0 hb hX hbl (Nat.not_le.mpr hbl) hZ.2.2.2.2.2.2.2.2 h3 d_La_law_669 ?_
  refine lv_aload_n hx0 hb d_La_law_670 rfl (lv_at hl 0 rfl) ?_
  refine lv_iload hx0 hb d_La_law_671 (lv_at hl 4 rfl) ?_
  refine lv_iconst (v := (4 : Int32)) hx0 hb d_La_law_673 (by decide) ?_
  refine lv_iadd hx0 hb d_La_law_674 ?_
  refine va_sld hx0 hb hX hbl (Nat.not_le.mpr hbl) hZ.2.2.2.2.2.2.2.2 h4 d_La_law_675 ?_
  refine lv_aload_n hx0 hb d_La_law_676 rfl (lv_at hl 3 rfl) ?_
  refine zl_callH (n := 6) [.ref (G1.1 0), .int (xs (Int32.toNatClampNeg (x4 + (1 : Int32)))), .int (xs (Int32.toNatClampNeg (x4 + (2 : Int32)))), .int (xs (Int32.toNatClampNeg (x4 + (3 : Int32)))), .int (xs (Int32.toNatClampNeg (x4 + (4 : Int32)))), .ref o] hx0 hb hml hts hown (ch_La_drawn l G1 o (xs (Int32.toNatClampNeg (x4 + (1 : Int32)))) (xs (Int32.toNatClampNeg (x4 + (2 : Int32)))) (xs (Int32.toNatClampNeg (x4 + (3 : Int32)))) (xs (Int32.toNatClampNeg (x4 + (4 : Int32)))) M1 fo r N1 e1) wc_La_drawn wini_La wst_La_drawn wm_La_100 (by decide +kernel) hZ hZX rfl rfl ⟨Nat.le_of_ble_eq_true rfl, Nat.le_of_ble_eq_true rfl⟩ ⟨Nat.le_trans (by omega : cl + 1 ≤ 20000) (by decide), Nat.le_trans (by omega : sl + 6 ≤ 200000) (by decide)⟩ hl.1 rfl (Nat.le_of_ble_eq_true rfl) d_La_law_677 (fun H locs hZ => ?_)
  refine lv_istore (lv' := [(5, .int 0), (0, .ref b), (1, .ref (G1.1 0)), (2, .ref (G2.1 0)), (3, .ref o), (4, .int x4)]) hx0 hb d_La_law_680 hl (by decide) rfl (fun ls hl => ?_)
  refine lv_aload_n hx0 hb d_La_law_682 rfl (lv_at hl 3 rfl) ?_
  refine lv_aload_n hx0 hb d_La_law_683 rfl (lv_at hl 1 rfl) ?_
  refine lv_iload hx0 hb d_La_law_684 (lv_at hl 5 rfl) ?_
  refine lv_iconst (v := (1 : Int32)) hx0 hb d_La_law_686 (by decide) ?_
  refine lv_iadd hx0 hb d_La_law_687 ?_
  refine va_sld hx0 hb hX hbl (Nat.not_le.mpr hbl) hZ.2.2.2.2.2.2.2.2 h1 d_La_law_688 ?_
  refine lv_aload_n hx0 hb d_La_law_689 rfl (lv_at hl 1 rfl) ?_
  refine lv_iload hx0 hb d_La_law_690 (lv_at hl 5 rfl) ?_
  refine lv_iconst (v := (2 : Int32)) hx0 hb d_La_law_692 (by decide) ?_
  refine lv_iadd hx0 hb d_La_law_693 ?_
  refine va_sld hx0 hb hX hbl (Nat.not_le.mpr hbl) hZ.2.2.2.2.2.2.2.2 h2 d_La_law_694 ?_
  refine lv_aload_n hx0 hb d_La_law_695 rfl (lv_at hl 1 rfl) ?_
  refine lv_iload hx0 hb d_La_law_696 (lv_at hl 5 rfl) ?_
  refine lv_iconst (v := (3 : Int32)) hx0 hb d_La_law_698 (by decide) ?_
  refine lv_iadd hx0 hb d_La_law_699 ?_
  refine va_sld hx0 hb hX hbl (Nat.not_le.mpr hbl) hZ.2.2.2.2.2.2.2.2 h3 d_La_law_700 ?_
  refine lv_aload_n hx0 hb d_La_law_701 rfl (lv_at hl 1 rfl) ?_
  refine lv_iload hx0 hb d_La_law_702 (lv_at hl 5 rfl) ?_
  refine lv_iconst (v := (4 : Int32)) hx0 hb d_La_law_704 (by decide) ?_
  refine lv_iadd hx0 hb d_La_law_705 ?_
  refine va_sld hx0 hb hX hbl (Nat.not_le.mpr hbl) hZ.2.2.2.2.2.2.2.2 h4 d_La_law_706 ?_
  refine zl_runT (va_runV (n := 4) (As := [.int (xs (Int32.toNatClampNeg (x4 + (1 : Int32)))), .int (xs (Int32.toNatClampNeg (x4 + (2 : Int32)))), .int (xs (Int32.toNatClampNeg (x4 + (3 : Int32)))), .int (xs (Int32.toNatClampNeg (x4 + (4 : Int32))))]) (rest := []) ⟨hx0, hb, hml, hown, hts⟩ (c_Md_drawn l G2 (xs (Int32.toNatClampNeg (x4 + (1 : Int32)))) (xs (Int32.toNatClampNeg (x4 + (2 : Int32)))) (xs (Int32.toNatClampNeg (x4 + (3 : Int32)))) (xs (Int32.toNatClampNeg (x4 + (4 : Int32)))) M2 (r, N2) e2 H.size) ⟨zcB hts wc_Md_drawn wini_Md wm_La_103 (by decide +kernel) rfl rfl ⟨Nat.le_of_ble_eq_true rfl, Nat.le_of_ble_eq_true rfl⟩, hts _ wi_Md_drawn, hts _ ws_Md_drawn⟩ ⟨zP_blindT, va_recv hZ.2.2.2.1.1 hZ.2.2.2.2.2.1 (ci := 7) (q0 := 0) rfl rfl, zl_PT hZ⟩ rfl rfl hl.1 rfl (lv_room (Nat.le_of_ble_eq_true rfl)) d_La_law_707 ⟨Nat.le_trans (by omega : (cl + 1) + 0 ≤ 20000) (by decide), Nat.le_trans (by omega : (sl + 6) + 0 ≤ 200000) (by decide)⟩) hZ (fun H locs hZ => ?_)
  refine lv_lstore (lv' := [(6, .long r), (5, .int 0), (0, .ref b), (1, .ref (G1.1 0)), (2, .ref (G2.1 0)), (3, .ref o), (4, .int x4)]) hx0 hb d_La_law_710 hl (by decide) rfl (fun ls hl => ?_)
  refine lv_aload_n hx0 hb d_La_law_712 rfl (lv_at hl 4 rfl) ?_
  refine zl_runT (va_runV (n := 0) (As := []) (rest := []) ⟨hx0, hb, hml, hown, hts⟩ (c_Md_thrown l G2 N2 (N2.1 0 0) rfl H.size) ⟨zcB hts wc_Md_thrown wini_Md wm_La_90 (by decide +kernel) rfl rfl ⟨Nat.le_of_ble_eq_true rfl, Nat.le_of_ble_eq_true rfl⟩, hts _ wi_Md_thrown, hts _ ws_Md_thrown⟩ ⟨zP_blindT, va_recv hZ.2.2.2.1.1 hZ.2.2.2.2.2.1 (ci := 7) (q0 := 0) rfl rfl, zl_PT hZ⟩ rfl rfl hl.1 rfl (lv_room (Nat.le_of_ble_eq_true rfl)) d_La_law_713 ⟨Nat.le_trans (by omega : (cl + 1) + 0 ≤ 20000) (by decide), Nat.le_trans (by omega : (sl + 6) + 0 ≤ 200000) (by decide)⟩) hZ (fun H locs hZ => ?_)
  refine lv_iload hx0 hb d_La_law_716 (lv_at hl 1 rfl) ?_
  refine lv_icmp_eq (tgt := 723) hx0 hb d_La_law_718 (by decide) (fun cc9 => ?_) (fun cc9 => ?_)
  · refine lv_iload hx0 hb d_La_law_723 (lv_at hl 1 rfl) ?_
    refine lv_if_ne (tgt := 739) hx0 hb d_La_law_725 (by decide) (fun cc9 => ?_) (fun cc9 => ?_)
    · exact absurd rfl cc9
    · refine lv_aload_n hx0 hb d_La_law_728 rfl (lv_at hl 5 rfl) ?_
      refine lv_iconst (v := (0 : Int32)) hx0 hb d_La_law_729 (by decide) ?_
      refine va_lald hx0 hb hZ.2.2.1.1 hZ.2.2.2.2.2.2.1 0 1 rfl rfl (vp_in_nI (n := 0) (by decide) (by decide)) d_La_law_730 ?_
      refine lv_lload hx0 hb d_La_law_731 (lv_at hl 0 rfl) ?_
      refine W.lcmp hx0 hb d_La_law_733 ?_
      refine lv_if_eq (tgt := 739) hx0 hb d_La_law_734 (by decide) (fun cc9 => ?_) (fun cc9 => ?_)
      · refine lv_goto (tgt := 1029) hx0 hb d_La_law_739 (by decide) ?_
        exact kk _ _ _ _ _ _ _ _ (by omega) (by omega) hI hZ (lv_sub hl [2, 3, 4, 5, 6] rfl)
      · exact absurd (lgc_self _) cc9
  · exact absurd hth cc9
set_option maxHeartbeats 4000000 in
set_option maxRecDepth 100000 in
theorem law_drawn_X {p : Program} {l : Launch} {e : Env} {s : State} {m : MethodId} {below : List Frame} {meth : Method} {c : Code} {Q : State → Prop} {H : Heap} {locs : List Loc} {cl sl b L : Nat} {xs : Nat → Int32} {ls : Array Slot} {G1 G2 : zG} {o : Nat} {M1 M2 : Mem} {fo : Nat → Int64} {x4 : Int32} {Inv : Mem → Mem → Prop} (hx0 : p.tables.exec = Jvm.exec) (hb : c.code = code) (hml : c.maxLocals = 8) (hts : ∀ w ∈ zws, w.before #[Value.ref b] s = true) (hown : s.vm.findClass R_La = some m.cls) (hfl : l.flags = pinnedFlags ++ [noTraceFlag]) (hX : va_X b L xs s s.heap) (hbl : b < s.heap.size) (hZX : zX s.heap.size s) (h1 : vp_in (x4 + (1 : Int32)) L) (h2 : vp_in (x4 + (2 : Int32)) L) (h3 : vp_in (x4 + (3 : Int32)) L) (h4 : vp_in (x4 + (4 : Int32)) L) (hcl : cl ≤ 10000) (hsl : sl ≤ 100000) (hZ : ZL G1 G2 o s M1 M2 fo H locs) (hInv : Inv M1 M2) (hl : lv_has ls 8 [(0, .ref b), (1, .ref (G1.1 0)), (2, .ref (G2.1 0)), (3, .ref o), (4, .int x4)]) (r : Int64) (N1 N2 : Mem) (e1 : p_ES_drawn (xs (Int32.toNatClampNeg (x4 + (1 : Int32)))) (xs (Int32.toNatClampNeg (x4 + (2 : Int32)))) (xs (Int32.toNatClampNeg (x4 + (3 : Int32)))) (xs (Int32.toNatClampNeg (x4 + (4 : Int32)))) M1 = some (none, N1)) (e2 : p_Md_drawn (xs (Int32.toNatClampNeg (x4 + (1 : Int32)))) (xs (Int32.toNatClampNeg (x4 + (2 : Int32)))) (xs (Int32.toNatClampNeg (x4 + (3 : Int32)))) (xs (Int32.toNatClampNeg (x4 + (4 : Int32)))) M2 = some (r, N2)) (hth : N2.1 0 0 = 1) (hI : Inv N1 N2) (kk : ∀ (cl' sl' : Nat) (N1 N2 : Mem) (fo' : Nat → Int64) (H1 : Heap) (locs1 : List Loc) (ls1 : Array Slot), cl' ≤ cl + 1 → sl' ≤ sl + 6 → Inv N1 N2 → ZL G1 G2 o s N1 N2 fo' H1 locs1 → lv_has ls1 8 [(0, .ref b), (1, .ref (G1.1 0)), (2, .ref (G2.1 0)), (3, .ref o), (4, .int x4)] → W p l e room_1 s m #[Value.ref b] below meth c H1 locs1 cl' sl' Q (F0 m 1029 ls1 [])) : W p l e room_1 s m #[Value.ref b] below meth c H locs cl sl Q (F0 m 651 ls []) := by
  refine lv_aload_n hx0 hb d_La_law_651 rfl (lv_at hl 1 rfl) ?_
  refine lv_aload_n hx0 hb d_La_law_652 rfl (lv_at hl 0 rfl) ?_
  refine lv_iload hx0 hb d_La_law_653 (lv_at hl 4 rfl) ?_
  refine lv_iconst (v := (1 : Int32)) hx0 hb d_La_law_655 (by decide) ?_
  refine lv_iadd hx0 hb d_La_law_656 ?_
  refine va_sld hx0 hb hX hbl (Nat.not_le.mpr hbl) hZ.2.2.2.2.2.2.2.2 h1 d_La_law_657 ?_
  refine lv_aload_n hx0 hb d_La_law_658 rfl (lv_at hl 0 rfl) ?_
  refine lv_iload hx0 hb d_La_law_659 (lv_at hl 4 rfl) ?_
  refine lv_iconst (v := (2 : Int32)) hx0 hb d_La_law_661 (by decide) ?_
  refine lv_iadd hx0 hb d_La_law_662 ?_
  refine va_sld hx0 hb hX hbl (Nat.not_le.mpr hbl) hZ.2.2.2.2.2.2.2.2 h2 d_La_law_663 ?_
  refine lv_aload_n hx0 hb d_La_law_664 rfl (lv_at hl 0 rfl) ?_
  refine lv_iload hx0 hb d_La_law_665 (lv_at hl 4 rfl) ?_
  refine lv_iconst (v := (3 : Int32)) hx0 hb d_La_law_667 (by decide) ?_
  refine lv_iadd hx0 hb d_La_law_668 ?_
  refine va_sld hx0 hb hX hbl (Nat.not_le.mpr hbl) hZ.2.2.2.2.2.2.2.2 h3 d_La_law_669 ?_
  refine lv_aload_n hx0 hb d_La_law_670 rfl (lv_at hl 0 rfl) ?_
  refine lv_iload hx0 hb d_La_law_671 (lv_at hl 4 rfl) ?_
  refine lv_iconst (v := (4 : Int32)) hx0 hb d_La_law_673 (by decide) ?_
  refine lv_iadd hx0 hb d_La_law_674 ?_
  refine va_sld hx0 hb hX hbl (Nat.not_le.mpr hbl) hZ.2.2.2.2.2.2.2.2 h4 d_La_law_675 ?_
  refine lv_aload_n hx0 hb d_La_law_676 rfl (lv_at hl 3 rfl) ?_
  refine zl_callH (n := 6) [.ref (G1.1 0), .int (xs (Int32.toNatClampNeg (x4 + (1 : Int32)))), .int (xs (Int32.toNatClampNeg (x4 + (2 : Int32)))), .int (xs (Int32.toNatClampNeg (x4 + (3 : Int32)))), .int (xs (Int32.toNatClampNeg (x4 + (4 : Int32)))), .ref o] hx0 hb hml hts hown (chx_La_drawn l hfl G1 o (xs (Int32.toNatClampNeg (x4 + (1 : Int32)))) (xs (Int32.toNatClampNeg (x4 + (2 : Int32)))) (xs (Int32.toNatClampNeg (x4 + (3 : Int32)))) (xs (Int32.toNatClampNeg (x4 + (4 : Int32)))) M1 fo N1 e1) wc_La_drawn wini_La wst_La_drawn wm_La_100 (by decide +kernel) hZ hZX rfl rfl ⟨Nat.le_of_ble_eq_true rfl, Nat.le_of_ble_eq_true rfl⟩ ⟨Nat.le_trans (by omega : cl + 1 ≤ 20000) (by decide), Nat.le_trans (by omega : sl + 6 ≤ 200000) (by decide)⟩ hl.1 rfl (Nat.le_of_ble_eq_true rfl) d_La_law_677 (fun H locs hZ => ?_)
  refine lv_istore (lv' := [(5, .int 1), (0, .ref b), (1, .ref (G1.1 0)), (2, .ref (G2.1 0)), (3, .ref o), (4, .int x4)]) hx0 hb d_La_law_680 hl (by decide) rfl (fun ls hl => ?_)
  refine lv_aload_n hx0 hb d_La_law_682 rfl (lv_at hl 3 rfl) ?_
  refine lv_aload_n hx0 hb d_La_law_683 rfl (lv_at hl 1 rfl) ?_
  refine lv_iload hx0 hb d_La_law_684 (lv_at hl 5 rfl) ?_
  refine lv_iconst (v := (1 : Int32)) hx0 hb d_La_law_686 (by decide) ?_
  refine lv_iadd hx0 hb d_La_law_687 ?_
  refine va_sld hx0 hb hX hbl (Nat.not_le.mpr hbl) hZ.2.2.2.2.2.2.2.2 h1 d_La_law_688 ?_
  refine lv_aload_n hx0 hb d_La_law_689 rfl (lv_at hl 1 rfl) ?_
  refine lv_iload hx0 hb d_La_law_690 (lv_at hl 5 rfl) ?_
  refine lv_iconst (v := (2 : Int32)) hx0 hb d_La_law_692 (by decide) ?_
  refine lv_iadd hx0 hb d_La_law_693 ?_
  refine va_sld hx0 hb hX hbl (Nat.not_le.mpr hbl) hZ.2.2.2.2.2.2.2.2 h2 d_La_law_694 ?_
  refine lv_aload_n hx0 hb d_La_law_695 rfl (lv_at hl 1 rfl) ?_
  refine lv_iload hx0 hb d_La_law_696 (lv_at hl 5 rfl) ?_
  refine lv_iconst (v := (3 : Int32)) hx0 hb d_La_law_698 (by decide) ?_
  refine lv_iadd hx0 hb d_La_law_699 ?_
  refine va_sld hx0 hb hX hbl (Nat.not_le.mpr hbl) hZ.2.2.2.2.2.2.2.2 h3 d_La_law_700 ?_
  refine lv_aload_n hx0 hb d_La_law_701 rfl (lv_at hl 1 rfl) ?_
  refine lv_iload hx0 hb d_La_law_702 (lv_at hl 5 rfl) ?_
  refine lv_iconst (v := (4 : Int32)) hx0 hb d_La_law_704 (by decide) ?_
  refine lv_iadd hx0 hb d_La_law_705 ?_
  refine va_sld hx0 hb hX hbl (Nat.not_le.mpr hbl) hZ.2.2.2.2.2.2.2.2 h4 d_La_law_706 ?_
  refine zl_runT (va_runV (n := 4) (As := [.int (xs (Int32.toNatClampNeg (x4 + (1 : Int32)))), .int (xs (Int32.toNatClampNeg (x4 + (2 : Int32)))), .int (xs (Int32.toNatClampNeg (x4 + (3 : Int32)))), .int (xs (Int32.toNatClampNeg (x4 + (4 : Int32))))]) (rest := []) ⟨hx0, hb, hml, hown, hts⟩ (c_Md_drawn l G2 (xs (Int32.toNatClampNeg (x4 + (1 : Int32)))) (xs (Int32.toNatClampNeg (x4 + (2 : Int32)))) (xs (Int32.toNatClampNeg (x4 + (3 : Int32)))) (xs (Int32.toNatClampNeg (x4 + (4 : Int32)))) M2 (r, N2) e2 H.size) ⟨zcB hts wc_Md_drawn wini_Md wm_La_103 (by decide +kernel) rfl rfl ⟨Nat.le_of_ble_eq_true rfl, Nat.le_of_ble_eq_true rfl⟩, hts _ wi_Md_drawn, hts _ ws_Md_drawn⟩ ⟨zP_blindT, va_recv hZ.2.2.2.1.1 hZ.2.2.2.2.2.1 (ci := 7) (q0 := 0) rfl rfl, zl_PT hZ⟩ rfl rfl hl.1 rfl (lv_room (Nat.le_of_ble_eq_true rfl)) d_La_law_707 ⟨Nat.le_trans (by omega : (cl + 1) + 0 ≤ 20000) (by decide), Nat.le_trans (by omega : (sl + 6) + 0 ≤ 200000) (by decide)⟩) hZ (fun H locs hZ => ?_)
  refine lv_lstore (lv' := [(6, .long r), (5, .int 1), (0, .ref b), (1, .ref (G1.1 0)), (2, .ref (G2.1 0)), (3, .ref o), (4, .int x4)]) hx0 hb d_La_law_710 hl (by decide) rfl (fun ls hl => ?_)
  refine lv_aload_n hx0 hb d_La_law_712 rfl (lv_at hl 4 rfl) ?_
  refine zl_runT (va_runV (n := 0) (As := []) (rest := []) ⟨hx0, hb, hml, hown, hts⟩ (c_Md_thrown l G2 N2 (N2.1 0 0) rfl H.size) ⟨zcB hts wc_Md_thrown wini_Md wm_La_90 (by decide +kernel) rfl rfl ⟨Nat.le_of_ble_eq_true rfl, Nat.le_of_ble_eq_true rfl⟩, hts _ wi_Md_thrown, hts _ ws_Md_thrown⟩ ⟨zP_blindT, va_recv hZ.2.2.2.1.1 hZ.2.2.2.2.2.1 (ci := 7) (q0 := 0) rfl rfl, zl_PT hZ⟩ rfl rfl hl.1 rfl (lv_room (Nat.le_of_ble_eq_true rfl)) d_La_law_713 ⟨Nat.le_trans (by omega : (cl + 1) + 0 ≤ 20000) (by decide), Nat.le_trans (by omega : (sl + 6) + 0 ≤ 200000) (by decide)⟩) hZ (fun H locs hZ => ?_)
  refine lv_iload hx0 hb d_La_law_716 (lv_at hl 1 rfl) ?_
  refine lv_icmp_eq (tgt := 723) hx0 hb d_La_law_718 (by decide) (fun cc9 => ?_) (fun cc9 => ?_)
  · refine lv_iload hx0 hb d_La_law_723 (lv_at hl 1 rfl) ?_
    refine lv_if_ne (tgt := 739) hx0 hb d_La_law_725 (by decide) (fun cc9 => ?_) (fun cc9 => ?_)
    · refine lv_goto (tgt := 1029) hx0 hb d_La_law_739 (by decide) ?_
      exact kk _ _ _ _ _ _ _ _ (by omega) (by omega) hI hZ (lv_sub hl [2, 3, 4, 5, 6] rfl)
    · exact absurd cc9 (by decide)
  · exact absurd hth cc9
theorem law_drawn {p : Program} {l : Launch} {e : Env} {s : State} {m : MethodId} {below : List Frame} {meth : Method} {c : Code} {Q : State → Prop} {H : Heap} {locs : List Loc} {cl sl b L : Nat} {xs : Nat → Int32} {ls : Array Slot} {G1 G2 : zG} {o : Nat} {M1 M2 : Mem} {fo : Nat → Int64} {x4 : Int32} {Inv : Mem → Mem → Prop} (hx0 : p.tables.exec = Jvm.exec) (hb : c.code = code) (hml : c.maxLocals = 8) (hts : ∀ w ∈ zws, w.before #[Value.ref b] s = true) (hown : s.vm.findClass R_La = some m.cls) (hfl : l.flags = pinnedFlags ++ [noTraceFlag]) (hX : va_X b L xs s s.heap) (hbl : b < s.heap.size) (hZX : zX s.heap.size s) (h1 : vp_in (x4 + (1 : Int32)) L) (h2 : vp_in (x4 + (2 : Int32)) L) (h3 : vp_in (x4 + (3 : Int32)) L) (h4 : vp_in (x4 + (4 : Int32)) L) (hcl : cl ≤ 10000) (hsl : sl ≤ 100000) (hZ : ZL G1 G2 o s M1 M2 fo H locs) (hInv : Inv M1 M2) (hl : lv_has ls 8 [(0, .ref b), (1, .ref (G1.1 0)), (2, .ref (G2.1 0)), (3, .ref o), (4, .int x4)]) (hG : Gd_drawn Inv) (kk : ∀ (cl' sl' : Nat) (N1 N2 : Mem) (fo' : Nat → Int64) (H1 : Heap) (locs1 : List Loc) (ls1 : Array Slot), cl' ≤ cl + 1 → sl' ≤ sl + 6 → Inv N1 N2 → ZL G1 G2 o s N1 N2 fo' H1 locs1 → lv_has ls1 8 [(0, .ref b), (1, .ref (G1.1 0)), (2, .ref (G2.1 0)), (3, .ref o), (4, .int x4)] → W p l e room_1 s m #[Value.ref b] below meth c H1 locs1 cl' sl' Q (F0 m 1029 ls1 [])) : W p l e room_1 s m #[Value.ref b] below meth c H locs cl sl Q (F0 m 651 ls []) := by
  rcases hG M1 M2 hInv (xs (Int32.toNatClampNeg (x4 + (1 : Int32)))) (xs (Int32.toNatClampNeg (x4 + (2 : Int32)))) (xs (Int32.toNatClampNeg (x4 + (3 : Int32)))) (xs (Int32.toNatClampNeg (x4 + (4 : Int32)))) with ⟨r, N1, N2, e1, e2, hth, hI⟩ | ⟨r, N1, N2, e1, e2, hth, hI⟩
  · exact law_drawn_N hx0 hb hml hts hown hfl hX hbl hZX h1 h2 h3 h4 hcl hsl hZ hInv hl r N1 N2 e1 e2 hth hI kk
  · exact law_drawn_X hx0 hb hml hts hown hfl hX hbl hZX h1 h2 h3 h4 hcl hsl hZ hInv hl r N1 N2 e1 e2 hth hI kk
set_option maxHeartbeats 4000000 in
set_option maxRecDepth 100000 in
theorem law_partial_N {p : Program} {l : Launch} {e : Env} {s : State} {m : MethodId} {below : List Frame} {meth : Method} {c : Code} {Q : State → Prop} {H : Heap} {locs : List Loc} {cl sl b L : Nat} {xs : Nat → Int32} {ls : Array Slot} {G1 G2 : zG} {o : Nat} {M1 M2 : Mem} {fo : Nat → Int64} {x4 : Int32} {Inv : Mem → Mem → Prop} (hx0 : p.tables.exec = Jvm.exec) (hb : c.code = code) (hml : c.maxLocals = 8) (hts : ∀ w ∈ zws, w.before #[Value.ref b] s = true) (hown : s.vm.findClass R_La = some m.cls) (hfl : l.flags = pinnedFlags ++ [noTraceFlag]) (hX : va_X b L xs s s.heap) (hbl : b < s.heap.size) (hZX : zX s.heap.size s) (h1 : vp_in (x4 + (1 : Int32)) L) (h2 : vp_in (x4 + (2 : Int32)) L) (h3 : vp_in (x4 + (3 : Int32)) L) (h4 : vp_in (x4 + (4 : Int32)) L) (hcl : cl ≤ 10000) (hsl : sl ≤ 100000) (hZ : ZL G1 G2 o s M1 M2 fo H locs) (hInv : Inv M1 M2) (hl : lv_has ls 8 [(0, .ref b), (1, .ref (G1.1 0)), (2, .ref (G2.1 0)), (3, .ref o), (4, .int x4)]) (r : Int64) (N1 N2 : Mem) (e1 : p_ES_partial (xs (Int32.toNatClampNeg (x4 + (1 : Int32)))) (xs (Int32.toNatClampNeg (x4 + (2 : Int32)))) (xs (Int32.toNatClampNeg (x4 + (3 : Int32)))) M1 = some (some r, N1)) (e2 : p_Md_partial (xs (Int32.toNatClampNeg (x4 + (1 : Int32)))) (xs (Int32.toNatClampNeg (x4 + (2 : Int32)))) (xs (Int32.toNatClampNeg (x4 + (3 : Int32)))) M2 = some (r, N2)) (hth : N2.1 0 0 = 0) (hI : Inv N1 N2) (kk : ∀ (cl' sl' : Nat) (N1 N2 : Mem) (fo' : Nat → Int64) (H1 : Heap) (locs1 : List Loc) (ls1 : Array Slot), cl' ≤ cl + 1 → sl' ≤ sl + 6 → Inv N1 N2 → ZL G1 G2 o s N1 N2 fo' H1 locs1 → lv_has ls1 8 [(0, .ref b), (1, .ref (G1.1 0)), (2, .ref (G2.1 0)), (3, .ref o), (4, .int x4)] → W p l e room_1 s m #[Value.ref b] below meth c H1 locs1 cl' sl' Q (F0 m 1029 ls1 [])) : W p l e room_1 s m #[Value.ref b] below meth c H locs cl sl Q (F0 m 742 ls []) := by
  refine lv_aload_n hx0 hb d_La_law_742 rfl (lv_at hl 1 rfl) ?_
  refine lv_aload_n hx0 hb d_La_law_743 rfl (lv_at hl 0 rfl) ?_
  refine lv_iload hx0 hb d_La_law_744 (lv_at hl 4 rfl) ?_
  refine lv_iconst (v := (1 : Int32)) hx0 hb d_La_law_746 (by decide) ?_
  refine lv_iadd hx0 hb d_La_law_747 ?_
  refine va_sld hx0 hb hX hbl (Nat.not_le.mpr hbl) hZ.2.2.2.2.2.2.2.2 h1 d_La_law_748 ?_
  refine lv_aload_n hx0 hb d_La_law_749 rfl (lv_at hl 0 rfl) ?_
  refine lv_iload hx0 hb d_La_law_750 (lv_at hl 4 rfl) ?_
  refine lv_iconst (v := (2 : Int32)) hx0 hb d_La_law_752 (by decide) ?_
  refine lv_iadd hx0 hb d_La_law_753 ?_
  refine va_sld hx0 hb hX hbl (Nat.not_le.mpr hbl) hZ.2.2.2.2.2.2.2.2 h2 d_La_law_754 ?_
  refine lv_aload_n hx0 hb d_La_law_755 rfl (lv_at hl 0 rfl) ?_
  refine lv_iload hx0 hb d_La_law_756 (lv_at hl 4 rfl) ?_
  refine lv_iconst (v := (3 : Int32)) hx0 hb d_La_law_758 (by decide) ?_
  refine lv_iadd hx0 hb d_La_law_759 ?_
  refine va_sld hx0 hb hX hbl (Nat.not_le.mpr hbl) hZ.2.2.2.2.2.2.2.2 h3 d_La_law_760 ?_
  refine lv_aload_n hx0 hb d_La_law_761 rfl (lv_at hl 3 rfl) ?_
  refine zl_callH (n := 5) [.ref (G1.1 0), .int (xs (Int32.toNatClampNeg (x4 + (1 : Int32)))), .int (xs (Int32.toNatClampNeg (x4 + (2 : Int32)))), .int (xs (Int32.toNatClampNeg (x4 + (3 : Int32)))), .ref o] hx0 hb hml hts hown (ch_La_partial l G1 o (xs (Int32.toNatClampNeg (x4 + (1 : Int32)))) (xs (Int32.toNatClampNeg (x4 + (2 : Int32)))) (xs (Int32.toNatClampNeg (x4 + (3 : Int32)))) M1 fo r N1 e1) wc_La_partial wini_La wst_La_partial wm_La_104 (by decide +kernel) hZ hZX rfl rfl ⟨Nat.le_of_ble_eq_true rfl, Nat.le_of_ble_eq_true rfl⟩ ⟨Nat.le_trans (by omega : cl + 1 ≤ 20000) (by decide), Nat.le_trans (by omega : sl + 6 ≤ 200000) (by decide)⟩ hl.1 rfl (Nat.le_of_ble_eq_true rfl) d_La_law_762 (fun H locs hZ => ?_)
  refine lv_istore (lv' := [(5, .int 0), (0, .ref b), (1, .ref (G1.1 0)), (2, .ref (G2.1 0)), (3, .ref o), (4, .int x4)]) hx0 hb d_La_law_765 hl (by decide) rfl (fun ls hl => ?_)
  refine lv_aload_n hx0 hb d_La_law_767 rfl (lv_at hl 3 rfl) ?_
  refine lv_aload_n hx0 hb d_La_law_768 rfl (lv_at hl 1 rfl) ?_
  refine lv_iload hx0 hb d_La_law_769 (lv_at hl 5 rfl) ?_
  refine lv_iconst (v := (1 : Int32)) hx0 hb d_La_law_771 (by decide) ?_
  refine lv_iadd hx0 hb d_La_law_772 ?_
  refine va_sld hx0 hb hX hbl (Nat.not_le.mpr hbl) hZ.2.2.2.2.2.2.2.2 h1 d_La_law_773 ?_
  refine lv_aload_n hx0 hb d_La_law_774 rfl (lv_at hl 1 rfl) ?_
  refine lv_iload hx0 hb d_La_law_775 (lv_at hl 5 rfl) ?_
  refine lv_iconst (v := (2 : Int32)) hx0 hb d_La_law_777 (by decide) ?_
  refine lv_iadd hx0 hb d_La_law_778 ?_
  refine va_sld hx0 hb hX hbl (Nat.not_le.mpr hbl) hZ.2.2.2.2.2.2.2.2 h2 d_La_law_779 ?_
  refine lv_aload_n hx0 hb d_La_law_780 rfl (lv_at hl 1 rfl) ?_
  refine lv_iload hx0 hb d_La_law_781 (lv_at hl 5 rfl) ?_
  refine lv_iconst (v := (3 : Int32)) hx0 hb d_La_law_783 (by decide) ?_
  refine lv_iadd hx0 hb d_La_law_784 ?_
  refine va_sld hx0 hb hX hbl (Nat.not_le.mpr hbl) hZ.2.2.2.2.2.2.2.2 h3 d_La_law_785 ?_
  refine zl_runT (va_runV (n := 3) (As := [.int (xs (Int32.toNatClampNeg (x4 + (1 : Int32)))), .int (xs (Int32.toNatClampNeg (x4 + (2 : Int32)))), .int (xs (Int32.toNatClampNeg (x4 + (3 : Int32))))]) (rest := []) ⟨hx0, hb, hml, hown, hts⟩ (c_Md_partial l G2 (xs (Int32.toNatClampNeg (x4 + (1 : Int32)))) (xs (Int32.toNatClampNeg (x4 + (2 : Int32)))) (xs (Int32.toNatClampNeg (x4 + (3 : Int32)))) M2 (r, N2) e2 H.size) ⟨zcB hts wc_Md_partial wini_Md wm_La_106 (by decide +kernel) rfl rfl ⟨Nat.le_of_ble_eq_true rfl, Nat.le_of_ble_eq_true rfl⟩, hts _ wi_Md_partial, hts _ ws_Md_partial⟩ ⟨zP_blindT, va_recv hZ.2.2.2.1.1 hZ.2.2.2.2.2.1 (ci := 7) (q0 := 0) rfl rfl, zl_PT hZ⟩ rfl rfl hl.1 rfl (lv_room (Nat.le_of_ble_eq_true rfl)) d_La_law_786 ⟨Nat.le_trans (by omega : (cl + 1) + 0 ≤ 20000) (by decide), Nat.le_trans (by omega : (sl + 6) + 0 ≤ 200000) (by decide)⟩) hZ (fun H locs hZ => ?_)
  refine lv_lstore (lv' := [(6, .long r), (5, .int 0), (0, .ref b), (1, .ref (G1.1 0)), (2, .ref (G2.1 0)), (3, .ref o), (4, .int x4)]) hx0 hb d_La_law_789 hl (by decide) rfl (fun ls hl => ?_)
  refine lv_aload_n hx0 hb d_La_law_791 rfl (lv_at hl 4 rfl) ?_
  refine zl_runT (va_runV (n := 0) (As := []) (rest := []) ⟨hx0, hb, hml, hown, hts⟩ (c_Md_thrown l G2 N2 (N2.1 0 0) rfl H.size) ⟨zcB hts wc_Md_thrown wini_Md wm_La_90 (by decide +kernel) rfl rfl ⟨Nat.le_of_ble_eq_true rfl, Nat.le_of_ble_eq_true rfl⟩, hts _ wi_Md_thrown, hts _ ws_Md_thrown⟩ ⟨zP_blindT, va_recv hZ.2.2.2.1.1 hZ.2.2.2.2.2.1 (ci := 7) (q0 := 0) rfl rfl, zl_PT hZ⟩ rfl rfl hl.1 rfl (lv_room (Nat.le_of_ble_eq_true rfl)) d_La_law_792 ⟨Nat.le_trans (by omega : (cl + 1) + 0 ≤ 20000) (by decide), Nat.le_trans (by omega : (sl + 6) + 0 ≤ 200000) (by decide)⟩) hZ (fun H locs hZ => ?_)
  refine lv_iload hx0 hb d_La_law_795 (lv_at hl 1 rfl) ?_
  refine lv_icmp_eq (tgt := 802) hx0 hb d_La_law_797 (by decide) (fun cc9 => ?_) (fun cc9 => ?_)
  · refine lv_iload hx0 hb d_La_law_802 (lv_at hl 1 rfl) ?_
    refine lv_if_ne (tgt := 818) hx0 hb d_La_law_804 (by decide) (fun cc9 => ?_) (fun cc9 => ?_)
    · exact absurd rfl cc9
    · refine lv_aload_n hx0 hb d_La_law_807 rfl (lv_at hl 5 rfl) ?_
      refine lv_iconst (v := (0 : Int32)) hx0 hb d_La_law_808 (by decide) ?_
      refine va_lald hx0 hb hZ.2.2.1.1 hZ.2.2.2.2.2.2.1 0 1 rfl rfl (vp_in_nI (n := 0) (by decide) (by decide)) d_La_law_809 ?_
      refine lv_lload hx0 hb d_La_law_810 (lv_at hl 0 rfl) ?_
      refine W.lcmp hx0 hb d_La_law_812 ?_
      refine lv_if_eq (tgt := 818) hx0 hb d_La_law_813 (by decide) (fun cc9 => ?_) (fun cc9 => ?_)
      · refine lv_goto (tgt := 1029) hx0 hb d_La_law_818 (by decide) ?_
        exact kk _ _ _ _ _ _ _ _ (by omega) (by omega) hI hZ (lv_sub hl [2, 3, 4, 5, 6] rfl)
      · exact absurd (lgc_self _) cc9
  · exact absurd hth cc9
set_option maxHeartbeats 4000000 in
set_option maxRecDepth 100000 in
theorem law_partial_X {p : Program} {l : Launch} {e : Env} {s : State} {m : MethodId} {below : List Frame} {meth : Method} {c : Code} {Q : State → Prop} {H : Heap} {locs : List Loc} {cl sl b L : Nat} {xs : Nat → Int32} {ls : Array Slot} {G1 G2 : zG} {o : Nat} {M1 M2 : Mem} {fo : Nat → Int64} {x4 : Int32} {Inv : Mem → Mem → Prop} (hx0 : p.tables.exec = Jvm.exec) (hb : c.code = code) (hml : c.maxLocals = 8) (hts : ∀ w ∈ zws, w.before #[Value.ref b] s = true) (hown : s.vm.findClass R_La = some m.cls) (hfl : l.flags = pinnedFlags ++ [noTraceFlag]) (hX : va_X b L xs s s.heap) (hbl : b < s.heap.size) (hZX : zX s.heap.size s) (h1 : vp_in (x4 + (1 : Int32)) L) (h2 : vp_in (x4 + (2 : Int32)) L) (h3 : vp_in (x4 + (3 : Int32)) L) (h4 : vp_in (x4 + (4 : Int32)) L) (hcl : cl ≤ 10000) (hsl : sl ≤ 100000) (hZ : ZL G1 G2 o s M1 M2 fo H locs) (hInv : Inv M1 M2) (hl : lv_has ls 8 [(0, .ref b), (1, .ref (G1.1 0)), (2, .ref (G2.1 0)), (3, .ref o), (4, .int x4)]) (r : Int64) (N1 N2 : Mem) (e1 : p_ES_partial (xs (Int32.toNatClampNeg (x4 + (1 : Int32)))) (xs (Int32.toNatClampNeg (x4 + (2 : Int32)))) (xs (Int32.toNatClampNeg (x4 + (3 : Int32)))) M1 = some (none, N1)) (e2 : p_Md_partial (xs (Int32.toNatClampNeg (x4 + (1 : Int32)))) (xs (Int32.toNatClampNeg (x4 + (2 : Int32)))) (xs (Int32.toNatClampNeg (x4 + (3 : Int32)))) M2 = some (r, N2)) (hth : N2.1 0 0 = 1) (hI : Inv N1 N2) (kk : ∀ (cl' sl' : Nat) (N1 N2 : Mem) (fo' : Nat → Int64) (H1 : Heap) (locs1 : List Loc) (ls1 : Array Slot), cl' ≤ cl + 1 → sl' ≤ sl + 6 → Inv N1 N2 → ZL G1 G2 o s N1 N2 fo' H1 locs1 → lv_has ls1 8 [(0, .ref b), (1, .ref (G1.1 0)), (2, .ref (G2.1 0)), (3, .ref o), (4, .int x4)] → W p l e room_1 s m #[Value.ref b] below meth c H1 locs1 cl' sl' Q (F0 m 1029 ls1 [])) : W p l e room_1 s m #[Value.ref b] below meth c H locs cl sl Q (F0 m 742 ls []) := by
  refine lv_aload_n hx0 hb d_La_law_742 rfl (lv_at hl 1 rfl) ?_
  refine lv_aload_n hx0 hb d_La_law_743 rfl (lv_at hl 0 rfl) ?_
  refine lv_iload hx0 hb d_La_law_744 (lv_at hl 4 rfl) ?_
  refine lv_iconst (v := (1 : Int32)) hx0 hb d_La_law_746 (by decide) ?_
  refine lv_iadd hx0 hb d_La_law_747 ?_
  refine va_sld hx0 hb hX hbl (Nat.not_le.mpr hbl) hZ.2.2.2.2.2.2.2.2 h1 d_La_law_748 ?_
  refine lv_aload_n hx0 hb d_La_law_749 rfl (lv_at hl 0 rfl) ?_
  refine lv_iload hx0 hb d_La_law_750 (lv_at hl 4 rfl) ?_
  refine lv_iconst (v := (2 : Int32)) hx0 hb d_La_law_752 (by decide) ?_
  refine lv_iadd hx0 hb d_La_law_753 ?_
  refine va_sld hx0 hb hX hbl (Nat.not_le.mpr hbl) hZ.2.2.2.2.2.2.2.2 h2 d_La_law_754 ?_
  refine lv_aload_n hx0 hb d_La_law_755 rfl (lv_at hl 0 rfl) ?_
  refine lv_iload hx0 hb d_La_law_756 (lv_at hl 4 rfl) ?_
  refine lv_iconst (v := (3 : Int32)) hx0 hb d_La_law_758 (by decide) ?_
  refine lv_iadd hx0 hb d_La_law_759 ?_
  refine va_sld hx0 hb hX hbl (Nat.not_le.mpr hbl) hZ.2.2.2.2.2.2.2.2 h3 d_La_law_760 ?_
  refine lv_aload_n hx0 hb d_La_law_761 rfl (lv_at hl 3 rfl) ?_
  refine zl_callH (n := 5) [.ref (G1.1 0), .int (xs (Int32.toNatClampNeg (x4 + (1 : Int32)))), .int (xs (Int32.toNatClampNeg (x4 + (2 : Int32)))), .int (xs (Int32.toNatClampNeg (x4 + (3 : Int32)))), .ref o] hx0 hb hml hts hown (chx_La_partial l hfl G1 o (xs (Int32.toNatClampNeg (x4 + (1 : Int32)))) (xs (Int32.toNatClampNeg (x4 + (2 : Int32)))) (xs (Int32.toNatClampNeg (x4 + (3 : Int32)))) M1 fo N1 e1) wc_La_partial wini_La wst_La_partial wm_La_104 (by decide +kernel) hZ hZX rfl rfl ⟨Nat.le_of_ble_eq_true rfl, Nat.le_of_ble_eq_true rfl⟩ ⟨Nat.le_trans (by omega : cl + 1 ≤ 20000) (by decide), Nat.le_trans (by omega : sl + 6 ≤ 200000) (by decide)⟩ hl.1 rfl (Nat.le_of_ble_eq_true rfl) d_La_law_762 (fun H locs hZ => ?_)
  refine lv_istore (lv' := [(5, .int 1), (0, .ref b), (1, .ref (G1.1 0)), (2, .ref (G2.1 0)), (3, .ref o), (4, .int x4)]) hx0 hb d_La_law_765 hl (by decide) rfl (fun ls hl => ?_)
  refine lv_aload_n hx0 hb d_La_law_767 rfl (lv_at hl 3 rfl) ?_
  refine lv_aload_n hx0 hb d_La_law_768 rfl (lv_at hl 1 rfl) ?_
  refine lv_iload hx0 hb d_La_law_769 (lv_at hl 5 rfl) ?_
  refine lv_iconst (v := (1 : Int32)) hx0 hb d_La_law_771 (by decide) ?_
  refine lv_iadd hx0 hb d_La_law_772 ?_
  refine va_sld hx0 hb hX hbl (Nat.not_le.mpr hbl) hZ.2.2.2.2.2.2.2.2 h1 d_La_law_773 ?_
  refine lv_aload_n hx0 hb d_La_law_774 rfl (lv_at hl 1 rfl) ?_
  refine lv_iload hx0 hb d_La_law_775 (lv_at hl 5 rfl) ?_
  refine lv_iconst (v := (2 : Int32)) hx0 hb d_La_law_777 (by decide) ?_
  refine lv_iadd hx0 hb d_La_law_778 ?_
  refine va_sld hx0 hb hX hbl (Nat.not_le.mpr hbl) hZ.2.2.2.2.2.2.2.2 h2 d_La_law_779 ?_
  refine lv_aload_n hx0 hb d_La_law_780 rfl (lv_at hl 1 rfl) ?_
  refine lv_iload hx0 hb d_La_law_781 (lv_at hl 5 rfl) ?_
  refine lv_iconst (v := (3 : Int32)) hx0 hb d_La_law_783 (by decide) ?_
  refine lv_iadd hx0 hb d_La_law_784 ?_
  refine va_sld hx0 hb hX hbl (Nat.not_le.mpr hbl) hZ.2.2.2.2.2.2.2.2 h3 d_La_law_785 ?_
  refine zl_runT (va_runV (n := 3) (As := [.int (xs (Int32.toNatClampNeg (x4 + (1 : Int32)))), .int (xs (Int32.toNatClampNeg (x4 + (2 : Int32)))), .int (xs (Int32.toNatClampNeg (x4 + (3 : Int32))))]) (rest := []) ⟨hx0, hb, hml, hown, hts⟩ (c_Md_partial l G2 (xs (Int32.toNatClampNeg (x4 + (1 : Int32)))) (xs (Int32.toNatClampNeg (x4 + (2 : Int32)))) (xs (Int32.toNatClampNeg (x4 + (3 : Int32)))) M2 (r, N2) e2 H.size) ⟨zcB hts wc_Md_partial wini_Md wm_La_106 (by decide +kernel) rfl rfl ⟨Nat.le_of_ble_eq_true rfl, Nat.le_of_ble_eq_true rfl⟩, hts _ wi_Md_partial, hts _ ws_Md_partial⟩ ⟨zP_blindT, va_recv hZ.2.2.2.1.1 hZ.2.2.2.2.2.1 (ci := 7) (q0 := 0) rfl rfl, zl_PT hZ⟩ rfl rfl hl.1 rfl (lv_room (Nat.le_of_ble_eq_true rfl)) d_La_law_786 ⟨Nat.le_trans (by omega : (cl + 1) + 0 ≤ 20000) (by decide), Nat.le_trans (by omega : (sl + 6) + 0 ≤ 200000) (by decide)⟩) hZ (fun H locs hZ => ?_)
  refine lv_lstore (lv' := [(6, .long r), (5, .int 1), (0, .ref b), (1, .ref (G1.1 0)), (2, .ref (G2.1 0)), (3, .ref o), (4, .int x4)]) hx0 hb d_La_law_789 hl (by decide) rfl (fun ls hl => ?_)
  refine lv_aload_n hx0 hb d_La_law_791 rfl (lv_at hl 4 rfl) ?_
  refine zl_runT (va_runV (n := 0) (As := []) (rest := []) ⟨hx0, hb, hml, hown, hts⟩ (c_Md_thrown l G2 N2 (N2.1 0 0) rfl H.size) ⟨zcB hts wc_Md_thrown wini_Md wm_La_90 (by decide +kernel) rfl rfl ⟨Nat.le_of_ble_eq_true rfl, Nat.le_of_ble_eq_true rfl⟩, hts _ wi_Md_thrown, hts _ ws_Md_thrown⟩ ⟨zP_blindT, va_recv hZ.2.2.2.1.1 hZ.2.2.2.2.2.1 (ci := 7) (q0 := 0) rfl rfl, zl_PT hZ⟩ rfl rfl hl.1 rfl (lv_room (Nat.le_of_ble_eq_true rfl)) d_La_law_792 ⟨Nat.le_trans (by omega : (cl + 1) + 0 ≤ 20000) (by decide), Nat.le_trans (by omega : (sl + 6) + 0 ≤ 200000) (by decide)⟩) hZ (fun H locs hZ => ?_)
  refine lv_iload hx0 hb d_La_law_795 (lv_at hl 1 rfl) ?_
  refine lv_icmp_eq (tgt := 802) hx0 hb d_La_law_797 (by decide) (fun cc9 => ?_) (fun cc9 => ?_)
  · refine lv_iload hx0 hb d_La_law_802 (lv_at hl 1 rfl) ?_
    refine lv_if_ne (tgt := 818) hx0 hb d_La_law_804 (by decide) (fun cc9 => ?_) (fun cc9 => ?_)
    · refine lv_goto (tgt := 1029) hx0 hb d_La_law_818 (by decide) ?_
      exact kk _ _ _ _ _ _ _ _ (by omega) (by omega) hI hZ (lv_sub hl [2, 3, 4, 5, 6] rfl)
    · exact absurd cc9 (by decide)
  · exact absurd hth cc9
theorem law_partial {p : Program} {l : Launch} {e : Env} {s : State} {m : MethodId} {below : List Frame} {meth : Method} {c : Code} {Q : State → Prop} {H : Heap} {locs : List Loc} {cl sl b L : Nat} {xs : Nat → Int32} {ls : Array Slot} {G1 G2 : zG} {o : Nat} {M1 M2 : Mem} {fo : Nat → Int64} {x4 : Int32} {Inv : Mem → Mem → Prop} (hx0 : p.tables.exec = Jvm.exec) (hb : c.code = code) (hml : c.maxLocals = 8) (hts : ∀ w ∈ zws, w.before #[Value.ref b] s = true) (hown : s.vm.findClass R_La = some m.cls) (hfl : l.flags = pinnedFlags ++ [noTraceFlag]) (hX : va_X b L xs s s.heap) (hbl : b < s.heap.size) (hZX : zX s.heap.size s) (h1 : vp_in (x4 + (1 : Int32)) L) (h2 : vp_in (x4 + (2 : Int32)) L) (h3 : vp_in (x4 + (3 : Int32)) L) (h4 : vp_in (x4 + (4 : Int32)) L) (hcl : cl ≤ 10000) (hsl : sl ≤ 100000) (hZ : ZL G1 G2 o s M1 M2 fo H locs) (hInv : Inv M1 M2) (hl : lv_has ls 8 [(0, .ref b), (1, .ref (G1.1 0)), (2, .ref (G2.1 0)), (3, .ref o), (4, .int x4)]) (hG : Gd_partial Inv) (kk : ∀ (cl' sl' : Nat) (N1 N2 : Mem) (fo' : Nat → Int64) (H1 : Heap) (locs1 : List Loc) (ls1 : Array Slot), cl' ≤ cl + 1 → sl' ≤ sl + 6 → Inv N1 N2 → ZL G1 G2 o s N1 N2 fo' H1 locs1 → lv_has ls1 8 [(0, .ref b), (1, .ref (G1.1 0)), (2, .ref (G2.1 0)), (3, .ref o), (4, .int x4)] → W p l e room_1 s m #[Value.ref b] below meth c H1 locs1 cl' sl' Q (F0 m 1029 ls1 [])) : W p l e room_1 s m #[Value.ref b] below meth c H locs cl sl Q (F0 m 742 ls []) := by
  rcases hG M1 M2 hInv (xs (Int32.toNatClampNeg (x4 + (1 : Int32)))) (xs (Int32.toNatClampNeg (x4 + (2 : Int32)))) (xs (Int32.toNatClampNeg (x4 + (3 : Int32)))) with ⟨r, N1, N2, e1, e2, hth, hI⟩ | ⟨r, N1, N2, e1, e2, hth, hI⟩
  · exact law_partial_N hx0 hb hml hts hown hfl hX hbl hZX h1 h2 h3 h4 hcl hsl hZ hInv hl r N1 N2 e1 e2 hth hI kk
  · exact law_partial_X hx0 hb hml hts hown hfl hX hbl hZX h1 h2 h3 h4 hcl hsl hZ hInv hl r N1 N2 e1 e2 hth hI kk
set_option maxHeartbeats 4000000 in
set_option maxRecDepth 100000 in
theorem law_worth_N {p : Program} {l : Launch} {e : Env} {s : State} {m : MethodId} {below : List Frame} {meth : Method} {c : Code} {Q : State → Prop} {H : Heap} {locs : List Loc} {cl sl b L : Nat} {xs : Nat → Int32} {ls : Array Slot} {G1 G2 : zG} {o : Nat} {M1 M2 : Mem} {fo : Nat → Int64} {x4 : Int32} {Inv : Mem → Mem → Prop} (hx0 : p.tables.exec = Jvm.exec) (hb : c.code = code) (hml : c.maxLocals = 8) (hts : ∀ w ∈ zws, w.before #[Value.ref b] s = true) (hown : s.vm.findClass R_La = some m.cls) (hfl : l.flags = pinnedFlags ++ [noTraceFlag]) (hX : va_X b L xs s s.heap) (hbl : b < s.heap.size) (hZX : zX s.heap.size s) (h1 : vp_in (x4 + (1 : Int32)) L) (h2 : vp_in (x4 + (2 : Int32)) L) (h3 : vp_in (x4 + (3 : Int32)) L) (h4 : vp_in (x4 + (4 : Int32)) L) (hcl : cl ≤ 10000) (hsl : sl ≤ 100000) (hZ : ZL G1 G2 o s M1 M2 fo H locs) (hInv : Inv M1 M2) (hl : lv_has ls 8 [(0, .ref b), (1, .ref (G1.1 0)), (2, .ref (G2.1 0)), (3, .ref o), (4, .int x4)]) (r : Int64) (N1 N2 : Mem) (e1 : p_ES_worth (xs (Int32.toNatClampNeg (x4 + (1 : Int32)))) (xs (Int32.toNatClampNeg (x4 + (2 : Int32)))) M1 = some (some r, N1)) (e2 : p_Md_worth (xs (Int32.toNatClampNeg (x4 + (1 : Int32)))) (xs (Int32.toNatClampNeg (x4 + (2 : Int32)))) M2 = some (r, N2)) (hth : N2.1 0 0 = 0) (hI : Inv N1 N2) (kk : ∀ (cl' sl' : Nat) (N1 N2 : Mem) (fo' : Nat → Int64) (H1 : Heap) (locs1 : List Loc) (ls1 : Array Slot), cl' ≤ cl + 1 → sl' ≤ sl + 6 → Inv N1 N2 → ZL G1 G2 o s N1 N2 fo' H1 locs1 → lv_has ls1 8 [(0, .ref b), (1, .ref (G1.1 0)), (2, .ref (G2.1 0)), (3, .ref o), (4, .int x4)] → W p l e room_1 s m #[Value.ref b] below meth c H1 locs1 cl' sl' Q (F0 m 1029 ls1 [])) : W p l e room_1 s m #[Value.ref b] below meth c H locs cl sl Q (F0 m 821 ls []) := by
  refine lv_aload_n hx0 hb d_La_law_821 rfl (lv_at hl 1 rfl) ?_
  refine lv_aload_n hx0 hb d_La_law_822 rfl (lv_at hl 0 rfl) ?_
  refine lv_iload hx0 hb d_La_law_823 (lv_at hl 4 rfl) ?_
  refine lv_iconst (v := (1 : Int32)) hx0 hb d_La_law_825 (by decide) ?_
  refine lv_iadd hx0 hb d_La_law_826 ?_
  refine va_sld hx0 hb hX hbl (Nat.not_le.mpr hbl) hZ.2.2.2.2.2.2.2.2 h1 d_La_law_827 ?_
  refine lv_aload_n hx0 hb d_La_law_828 rfl (lv_at hl 0 rfl) ?_
  refine lv_iload hx0 hb d_La_law_829 (lv_at hl 4 rfl) ?_
  refine lv_iconst (v := (2 : Int32)) hx0 hb d_La_law_831 (by decide) ?_
  refine lv_iadd hx0 hb d_La_law_832 ?_
  refine va_sld hx0 hb hX hbl (Nat.not_le.mpr hbl) hZ.2.2.2.2.2.2.2.2 h2 d_La_law_833 ?_
  refine lv_aload_n hx0 hb d_La_law_834 rfl (lv_at hl 3 rfl) ?_
  refine zl_callH (n := 4) [.ref (G1.1 0), .int (xs (Int32.toNatClampNeg (x4 + (1 : Int32)))), .int (xs (Int32.toNatClampNeg (x4 + (2 : Int32)))), .ref o] hx0 hb hml hts hown (ch_La_worth l G1 o (xs (Int32.toNatClampNeg (x4 + (1 : Int32)))) (xs (Int32.toNatClampNeg (x4 + (2 : Int32)))) M1 fo r N1 e1) wc_La_worth wini_La wst_La_worth wm_La_107 (by decide +kernel) hZ hZX rfl rfl ⟨Nat.le_of_ble_eq_true rfl, Nat.le_of_ble_eq_true rfl⟩ ⟨Nat.le_trans (by omega : cl + 1 ≤ 20000) (by decide), Nat.le_trans (by omega : sl + 6 ≤ 200000) (by decide)⟩ hl.1 rfl (Nat.le_of_ble_eq_true rfl) d_La_law_835 (fun H locs hZ => ?_)
  refine lv_istore (lv' := [(5, .int 0), (0, .ref b), (1, .ref (G1.1 0)), (2, .ref (G2.1 0)), (3, .ref o), (4, .int x4)]) hx0 hb d_La_law_838 hl (by decide) rfl (fun ls hl => ?_)
  refine lv_aload_n hx0 hb d_La_law_840 rfl (lv_at hl 3 rfl) ?_
  refine lv_aload_n hx0 hb d_La_law_841 rfl (lv_at hl 1 rfl) ?_
  refine lv_iload hx0 hb d_La_law_842 (lv_at hl 5 rfl) ?_
  refine lv_iconst (v := (1 : Int32)) hx0 hb d_La_law_844 (by decide) ?_
  refine lv_iadd hx0 hb d_La_law_845 ?_
  refine va_sld hx0 hb hX hbl (Nat.not_le.mpr hbl) hZ.2.2.2.2.2.2.2.2 h1 d_La_law_846 ?_
  refine lv_aload_n hx0 hb d_La_law_847 rfl (lv_at hl 1 rfl) ?_
  refine lv_iload hx0 hb d_La_law_848 (lv_at hl 5 rfl) ?_
  refine lv_iconst (v := (2 : Int32)) hx0 hb d_La_law_850 (by decide) ?_
  refine lv_iadd hx0 hb d_La_law_851 ?_
  refine va_sld hx0 hb hX hbl (Nat.not_le.mpr hbl) hZ.2.2.2.2.2.2.2.2 h2 d_La_law_852 ?_
  refine zl_runT (va_runV (n := 2) (As := [.int (xs (Int32.toNatClampNeg (x4 + (1 : Int32)))), .int (xs (Int32.toNatClampNeg (x4 + (2 : Int32))))]) (rest := []) ⟨hx0, hb, hml, hown, hts⟩ (c_Md_worth l G2 (xs (Int32.toNatClampNeg (x4 + (1 : Int32)))) (xs (Int32.toNatClampNeg (x4 + (2 : Int32)))) M2 (r, N2) e2 H.size) ⟨zcB hts wc_Md_worth wini_Md wm_La_109 (by decide +kernel) rfl rfl ⟨Nat.le_of_ble_eq_true rfl, Nat.le_of_ble_eq_true rfl⟩, hts _ wi_Md_worth, hts _ ws_Md_worth⟩ ⟨zP_blindT, va_recv hZ.2.2.2.1.1 hZ.2.2.2.2.2.1 (ci := 7) (q0 := 0) rfl rfl, zl_PT hZ⟩ rfl rfl hl.1 rfl (lv_room (Nat.le_of_ble_eq_true rfl)) d_La_law_853 ⟨Nat.le_trans (by omega : (cl + 1) + 0 ≤ 20000) (by decide), Nat.le_trans (by omega : (sl + 6) + 0 ≤ 200000) (by decide)⟩) hZ (fun H locs hZ => ?_)
  refine lv_lstore (lv' := [(6, .long r), (5, .int 0), (0, .ref b), (1, .ref (G1.1 0)), (2, .ref (G2.1 0)), (3, .ref o), (4, .int x4)]) hx0 hb d_La_law_856 hl (by decide) rfl (fun ls hl => ?_)
  refine lv_aload_n hx0 hb d_La_law_858 rfl (lv_at hl 4 rfl) ?_
  refine zl_runT (va_runV (n := 0) (As := []) (rest := []) ⟨hx0, hb, hml, hown, hts⟩ (c_Md_thrown l G2 N2 (N2.1 0 0) rfl H.size) ⟨zcB hts wc_Md_thrown wini_Md wm_La_90 (by decide +kernel) rfl rfl ⟨Nat.le_of_ble_eq_true rfl, Nat.le_of_ble_eq_true rfl⟩, hts _ wi_Md_thrown, hts _ ws_Md_thrown⟩ ⟨zP_blindT, va_recv hZ.2.2.2.1.1 hZ.2.2.2.2.2.1 (ci := 7) (q0 := 0) rfl rfl, zl_PT hZ⟩ rfl rfl hl.1 rfl (lv_room (Nat.le_of_ble_eq_true rfl)) d_La_law_859 ⟨Nat.le_trans (by omega : (cl + 1) + 0 ≤ 20000) (by decide), Nat.le_trans (by omega : (sl + 6) + 0 ≤ 200000) (by decide)⟩) hZ (fun H locs hZ => ?_)
  refine lv_iload hx0 hb d_La_law_862 (lv_at hl 1 rfl) ?_
  refine lv_icmp_eq (tgt := 869) hx0 hb d_La_law_864 (by decide) (fun cc9 => ?_) (fun cc9 => ?_)
  · refine lv_iload hx0 hb d_La_law_869 (lv_at hl 1 rfl) ?_
    refine lv_if_ne (tgt := 885) hx0 hb d_La_law_871 (by decide) (fun cc9 => ?_) (fun cc9 => ?_)
    · exact absurd rfl cc9
    · refine lv_aload_n hx0 hb d_La_law_874 rfl (lv_at hl 5 rfl) ?_
      refine lv_iconst (v := (0 : Int32)) hx0 hb d_La_law_875 (by decide) ?_
      refine va_lald hx0 hb hZ.2.2.1.1 hZ.2.2.2.2.2.2.1 0 1 rfl rfl (vp_in_nI (n := 0) (by decide) (by decide)) d_La_law_876 ?_
      refine lv_lload hx0 hb d_La_law_877 (lv_at hl 0 rfl) ?_
      refine W.lcmp hx0 hb d_La_law_879 ?_
      refine lv_if_eq (tgt := 885) hx0 hb d_La_law_880 (by decide) (fun cc9 => ?_) (fun cc9 => ?_)
      · refine lv_goto (tgt := 1029) hx0 hb d_La_law_885 (by decide) ?_
        exact kk _ _ _ _ _ _ _ _ (by omega) (by omega) hI hZ (lv_sub hl [2, 3, 4, 5, 6] rfl)
      · exact absurd (lgc_self _) cc9
  · exact absurd hth cc9
set_option maxHeartbeats 4000000 in
set_option maxRecDepth 100000 in
theorem law_worth_X {p : Program} {l : Launch} {e : Env} {s : State} {m : MethodId} {below : List Frame} {meth : Method} {c : Code} {Q : State → Prop} {H : Heap} {locs : List Loc} {cl sl b L : Nat} {xs : Nat → Int32} {ls : Array Slot} {G1 G2 : zG} {o : Nat} {M1 M2 : Mem} {fo : Nat → Int64} {x4 : Int32} {Inv : Mem → Mem → Prop} (hx0 : p.tables.exec = Jvm.exec) (hb : c.code = code) (hml : c.maxLocals = 8) (hts : ∀ w ∈ zws, w.before #[Value.ref b] s = true) (hown : s.vm.findClass R_La = some m.cls) (hfl : l.flags = pinnedFlags ++ [noTraceFlag]) (hX : va_X b L xs s s.heap) (hbl : b < s.heap.size) (hZX : zX s.heap.size s) (h1 : vp_in (x4 + (1 : Int32)) L) (h2 : vp_in (x4 + (2 : Int32)) L) (h3 : vp_in (x4 + (3 : Int32)) L) (h4 : vp_in (x4 + (4 : Int32)) L) (hcl : cl ≤ 10000) (hsl : sl ≤ 100000) (hZ : ZL G1 G2 o s M1 M2 fo H locs) (hInv : Inv M1 M2) (hl : lv_has ls 8 [(0, .ref b), (1, .ref (G1.1 0)), (2, .ref (G2.1 0)), (3, .ref o), (4, .int x4)]) (r : Int64) (N1 N2 : Mem) (e1 : p_ES_worth (xs (Int32.toNatClampNeg (x4 + (1 : Int32)))) (xs (Int32.toNatClampNeg (x4 + (2 : Int32)))) M1 = some (none, N1)) (e2 : p_Md_worth (xs (Int32.toNatClampNeg (x4 + (1 : Int32)))) (xs (Int32.toNatClampNeg (x4 + (2 : Int32)))) M2 = some (r, N2)) (hth : N2.1 0 0 = 1) (hI : Inv N1 N2) (kk : ∀ (cl' sl' : Nat) (N1 N2 : Mem) (fo' : Nat → Int64) (H1 : Heap) (locs1 : List Loc) (ls1 : Array Slot), cl' ≤ cl + 1 → sl' ≤ sl + 6 → Inv N1 N2 → ZL G1 G2 o s N1 N2 fo' H1 locs1 → lv_has ls1 8 [(0, .ref b), (1, .ref (G1.1 0)), (2, .ref (G2.1 0)), (3, .ref o), (4, .int x4)] → W p l e room_1 s m #[Value.ref b] below meth c H1 locs1 cl' sl' Q (F0 m 1029 ls1 [])) : W p l e room_1 s m #[Value.ref b] below meth c H locs cl sl Q (F0 m 821 ls []) := by
  refine lv_aload_n hx0 hb d_La_law_821 rfl (lv_at hl 1 rfl) ?_
  refine lv_aload_n hx0 hb d_La_law_822 rfl (lv_at hl 0 rfl) ?_
  refine lv_iload hx0 hb d_La_law_823 (lv_at hl 4 rfl) ?_
  refine lv_iconst (v := (1 : Int32)) hx0 hb d_La_law_825 (by decide) ?_
  refine lv_iadd hx0 hb d_La_law_826 ?_
  refine va_sld hx0 hb hX hbl (Nat.not_le.mpr hbl) hZ.2.2.2.2.2.2.2.2 h1 d_La_law_827 ?_
  refine lv_aload_n hx0 hb d_La_law_828 rfl (lv_at hl 0 rfl) ?_
  refine lv_iload hx0 hb d_La_law_829 (lv_at hl 4 rfl) ?_
  refine lv_iconst (v := (2 : Int32)) hx0 hb d_La_law_831 (by decide) ?_
  refine lv_iadd hx0 hb d_La_law_832 ?_
  refine va_sld hx0 hb hX hbl (Nat.not_le.mpr hbl) hZ.2.2.2.2.2.2.2.2 h2 d_La_law_833 ?_
  refine lv_aload_n hx0 hb d_La_law_834 rfl (lv_at hl 3 rfl) ?_
  refine zl_callH (n := 4) [.ref (G1.1 0), .int (xs (Int32.toNatClampNeg (x4 + (1 : Int32)))), .int (xs (Int32.toNatClampNeg (x4 + (2 : Int32)))), .ref o] hx0 hb hml hts hown (chx_La_worth l hfl G1 o (xs (Int32.toNatClampNeg (x4 + (1 : Int32)))) (xs (Int32.toNatClampNeg (x4 + (2 : Int32)))) M1 fo N1 e1) wc_La_worth wini_La wst_La_worth wm_La_107 (by decide +kernel) hZ hZX rfl rfl ⟨Nat.le_of_ble_eq_true rfl, Nat.le_of_ble_eq_true rfl⟩ ⟨Nat.le_trans (by omega : cl + 1 ≤ 20000) (by decide), Nat.le_trans (by omega : sl + 6 ≤ 200000) (by decide)⟩ hl.1 rfl (Nat.le_of_ble_eq_true rfl) d_La_law_835 (fun H locs hZ => ?_)
  refine lv_istore (lv' := [(5, .int 1), (0, .ref b), (1, .ref (G1.1 0)), (2, .ref (G2.1 0)), (3, .ref o), (4, .int x4)]) hx0 hb d_La_law_838 hl (by decide) rfl (fun ls hl => ?_)
  refine lv_aload_n hx0 hb d_La_law_840 rfl (lv_at hl 3 rfl) ?_
  refine lv_aload_n hx0 hb d_La_law_841 rfl (lv_at hl 1 rfl) ?_
  refine lv_iload hx0 hb d_La_law_842 (lv_at hl 5 rfl) ?_
  refine lv_iconst (v := (1 : Int32)) hx0 hb d_La_law_844 (by decide) ?_
  refine lv_iadd hx0 hb d_La_law_845 ?_
  refine va_sld hx0 hb hX hbl (Nat.not_le.mpr hbl) hZ.2.2.2.2.2.2.2.2 h1 d_La_law_846 ?_
  refine lv_aload_n hx0 hb d_La_law_847 rfl (lv_at hl 1 rfl) ?_
  refine lv_iload hx0 hb d_La_law_848 (lv_at hl 5 rfl) ?_
  refine lv_iconst (v := (2 : Int32)) hx0 hb d_La_law_850 (by decide) ?_
  refine lv_iadd hx0 hb d_La_law_851 ?_
  refine va_sld hx0 hb hX hbl (Nat.not_le.mpr hbl) hZ.2.2.2.2.2.2.2.2 h2 d_La_law_852 ?_
  refine zl_runT (va_runV (n := 2) (As := [.int (xs (Int32.toNatClampNeg (x4 + (1 : Int32)))), .int (xs (Int32.toNatClampNeg (x4 + (2 : Int32))))]) (rest := []) ⟨hx0, hb, hml, hown, hts⟩ (c_Md_worth l G2 (xs (Int32.toNatClampNeg (x4 + (1 : Int32)))) (xs (Int32.toNatClampNeg (x4 + (2 : Int32)))) M2 (r, N2) e2 H.size) ⟨zcB hts wc_Md_worth wini_Md wm_La_109 (by decide +kernel) rfl rfl ⟨Nat.le_of_ble_eq_true rfl, Nat.le_of_ble_eq_true rfl⟩, hts _ wi_Md_worth, hts _ ws_Md_worth⟩ ⟨zP_blindT, va_recv hZ.2.2.2.1.1 hZ.2.2.2.2.2.1 (ci := 7) (q0 := 0) rfl rfl, zl_PT hZ⟩ rfl rfl hl.1 rfl (lv_room (Nat.le_of_ble_eq_true rfl)) d_La_law_853 ⟨Nat.le_trans (by omega : (cl + 1) + 0 ≤ 20000) (by decide), Nat.le_trans (by omega : (sl + 6) + 0 ≤ 200000) (by decide)⟩) hZ (fun H locs hZ => ?_)
  refine lv_lstore (lv' := [(6, .long r), (5, .int 1), (0, .ref b), (1, .ref (G1.1 0)), (2, .ref (G2.1 0)), (3, .ref o), (4, .int x4)]) hx0 hb d_La_law_856 hl (by decide) rfl (fun ls hl => ?_)
  refine lv_aload_n hx0 hb d_La_law_858 rfl (lv_at hl 4 rfl) ?_
  refine zl_runT (va_runV (n := 0) (As := []) (rest := []) ⟨hx0, hb, hml, hown, hts⟩ (c_Md_thrown l G2 N2 (N2.1 0 0) rfl H.size) ⟨zcB hts wc_Md_thrown wini_Md wm_La_90 (by decide +kernel) rfl rfl ⟨Nat.le_of_ble_eq_true rfl, Nat.le_of_ble_eq_true rfl⟩, hts _ wi_Md_thrown, hts _ ws_Md_thrown⟩ ⟨zP_blindT, va_recv hZ.2.2.2.1.1 hZ.2.2.2.2.2.1 (ci := 7) (q0 := 0) rfl rfl, zl_PT hZ⟩ rfl rfl hl.1 rfl (lv_room (Nat.le_of_ble_eq_true rfl)) d_La_law_859 ⟨Nat.le_trans (by omega : (cl + 1) + 0 ≤ 20000) (by decide), Nat.le_trans (by omega : (sl + 6) + 0 ≤ 200000) (by decide)⟩) hZ (fun H locs hZ => ?_)
  refine lv_iload hx0 hb d_La_law_862 (lv_at hl 1 rfl) ?_
  refine lv_icmp_eq (tgt := 869) hx0 hb d_La_law_864 (by decide) (fun cc9 => ?_) (fun cc9 => ?_)
  · refine lv_iload hx0 hb d_La_law_869 (lv_at hl 1 rfl) ?_
    refine lv_if_ne (tgt := 885) hx0 hb d_La_law_871 (by decide) (fun cc9 => ?_) (fun cc9 => ?_)
    · refine lv_goto (tgt := 1029) hx0 hb d_La_law_885 (by decide) ?_
      exact kk _ _ _ _ _ _ _ _ (by omega) (by omega) hI hZ (lv_sub hl [2, 3, 4, 5, 6] rfl)
    · exact absurd cc9 (by decide)
  · exact absurd hth cc9
theorem law_worth {p : Program} {l : Launch} {e : Env} {s : State} {m : MethodId} {below : List Frame} {meth : Method} {c : Code} {Q : State → Prop} {H : Heap} {locs : List Loc} {cl sl b L : Nat} {xs : Nat → Int32} {ls : Array Slot} {G1 G2 : zG} {o : Nat} {M1 M2 : Mem} {fo : Nat → Int64} {x4 : Int32} {Inv : Mem → Mem → Prop} (hx0 : p.tables.exec = Jvm.exec) (hb : c.code = code) (hml : c.maxLocals = 8) (hts : ∀ w ∈ zws, w.before #[Value.ref b] s = true) (hown : s.vm.findClass R_La = some m.cls) (hfl : l.flags = pinnedFlags ++ [noTraceFlag]) (hX : va_X b L xs s s.heap) (hbl : b < s.heap.size) (hZX : zX s.heap.size s) (h1 : vp_in (x4 + (1 : Int32)) L) (h2 : vp_in (x4 + (2 : Int32)) L) (h3 : vp_in (x4 + (3 : Int32)) L) (h4 : vp_in (x4 + (4 : Int32)) L) (hcl : cl ≤ 10000) (hsl : sl ≤ 100000) (hZ : ZL G1 G2 o s M1 M2 fo H locs) (hInv : Inv M1 M2) (hl : lv_has ls 8 [(0, .ref b), (1, .ref (G1.1 0)), (2, .ref (G2.1 0)), (3, .ref o), (4, .int x4)]) (hG : Gd_worth Inv) (kk : ∀ (cl' sl' : Nat) (N1 N2 : Mem) (fo' : Nat → Int64) (H1 : Heap) (locs1 : List Loc) (ls1 : Array Slot), cl' ≤ cl + 1 → sl' ≤ sl + 6 → Inv N1 N2 → ZL G1 G2 o s N1 N2 fo' H1 locs1 → lv_has ls1 8 [(0, .ref b), (1, .ref (G1.1 0)), (2, .ref (G2.1 0)), (3, .ref o), (4, .int x4)] → W p l e room_1 s m #[Value.ref b] below meth c H1 locs1 cl' sl' Q (F0 m 1029 ls1 [])) : W p l e room_1 s m #[Value.ref b] below meth c H locs cl sl Q (F0 m 821 ls []) := by
  rcases hG M1 M2 hInv (xs (Int32.toNatClampNeg (x4 + (1 : Int32)))) (xs (Int32.toNatClampNeg (x4 + (2 : Int32)))) with ⟨r, N1, N2, e1, e2, hth, hI⟩ | ⟨r, N1, N2, e1, e2, hth, hI⟩
  · exact law_worth_N hx0 hb hml hts hown hfl hX hbl hZX h1 h2 h3 h4 hcl hsl hZ hInv hl r N1 N2 e1 e2 hth hI kk
  · exact law_worth_X hx0 hb hml hts hown hfl hX hbl hZX h1 h2 h3 h4 hcl hsl hZ hInv hl r N1 N2 e1 e2 hth hI kk
set_option maxHeartbeats 4000000 in
set_option maxRecDepth 100000 in
theorem law_rank {p : Program} {l : Launch} {e : Env} {s : State} {m : MethodId} {below : List Frame} {meth : Method} {c : Code} {Q : State → Prop} {H : Heap} {locs : List Loc} {cl sl b L : Nat} {xs : Nat → Int32} {ls : Array Slot} {G1 G2 : zG} {o : Nat} {M1 M2 : Mem} {fo : Nat → Int64} {x4 : Int32} {Inv : Mem → Mem → Prop} (hx0 : p.tables.exec = Jvm.exec) (hb : c.code = code) (hml : c.maxLocals = 8) (hts : ∀ w ∈ zws, w.before #[Value.ref b] s = true) (hown : s.vm.findClass R_La = some m.cls) (hfl : l.flags = pinnedFlags ++ [noTraceFlag]) (hX : va_X b L xs s s.heap) (hbl : b < s.heap.size) (hZX : zX s.heap.size s) (h1 : vp_in (x4 + (1 : Int32)) L) (h2 : vp_in (x4 + (2 : Int32)) L) (h3 : vp_in (x4 + (3 : Int32)) L) (h4 : vp_in (x4 + (4 : Int32)) L) (hcl : cl ≤ 10000) (hsl : sl ≤ 100000) (hZ : ZL G1 G2 o s M1 M2 fo H locs) (hInv : Inv M1 M2) (hl : lv_has ls 8 [(0, .ref b), (1, .ref (G1.1 0)), (2, .ref (G2.1 0)), (3, .ref o), (4, .int x4)]) (hG : Gd_rank Inv) (kk : ∀ (cl' sl' : Nat) (N1 N2 : Mem) (fo' : Nat → Int64) (H1 : Heap) (locs1 : List Loc) (ls1 : Array Slot), cl' ≤ cl + 1 → sl' ≤ sl + 6 → Inv N1 N2 → ZL G1 G2 o s N1 N2 fo' H1 locs1 → lv_has ls1 8 [(0, .ref b), (1, .ref (G1.1 0)), (2, .ref (G2.1 0)), (3, .ref o), (4, .int x4)] → W p l e room_1 s m #[Value.ref b] below meth c H1 locs1 cl' sl' Q (F0 m 1029 ls1 [])) : W p l e room_1 s m #[Value.ref b] below meth c H locs cl sl Q (F0 m 888 ls []) := by
  obtain ⟨r, N1, N2, e1, e2, hI⟩ := hG M1 M2 hInv (xs (Int32.toNatClampNeg (x4 + (1 : Int32))))
  refine lv_aload_n hx0 hb d_La_law_888 rfl (lv_at hl 1 rfl) ?_
  refine lv_aload_n hx0 hb d_La_law_889 rfl (lv_at hl 0 rfl) ?_
  refine lv_iload hx0 hb d_La_law_890 (lv_at hl 4 rfl) ?_
  refine lv_iconst (v := (1 : Int32)) hx0 hb d_La_law_892 (by decide) ?_
  refine lv_iadd hx0 hb d_La_law_893 ?_
  refine va_sld hx0 hb hX hbl (Nat.not_le.mpr hbl) hZ.2.2.2.2.2.2.2.2 h1 d_La_law_894 ?_
  refine zl_runC (va_runV (n := 1) (As := [.int (xs (Int32.toNatClampNeg (x4 + (1 : Int32))))]) (rest := []) ⟨hx0, hb, hml, hown, hts⟩ (c_ES_rank l G1 (xs (Int32.toNatClampNeg (x4 + (1 : Int32)))) M1 (r, N1) e1 H.size) ⟨zcB hts wc_ES_rank wini_ES wm_La_110 (by decide +kernel) rfl rfl ⟨Nat.le_of_ble_eq_true rfl, Nat.le_of_ble_eq_true rfl⟩, hts _ wi_ES_rank, hts _ ws_ES_rank⟩ ⟨zP_blindC, va_recv hZ.2.2.1.1 hZ.2.2.2.2.1 (ci := 6) (q0 := 0) rfl rfl, zl_PC hZ⟩ rfl rfl hl.1 rfl (lv_room (Nat.le_of_ble_eq_true rfl)) d_La_law_895 ⟨Nat.le_trans (by omega : cl + 0 ≤ 20000) (by decide), Nat.le_trans (by omega : sl + 0 ≤ 200000) (by decide)⟩) hZ (fun H locs hZ => ?_)
  refine lv_aload_n hx0 hb d_La_law_898 rfl (lv_at hl 2 rfl) ?_
  refine lv_aload_n hx0 hb d_La_law_899 rfl (lv_at hl 0 rfl) ?_
  refine lv_iload hx0 hb d_La_law_900 (lv_at hl 4 rfl) ?_
  refine lv_iconst (v := (1 : Int32)) hx0 hb d_La_law_902 (by decide) ?_
  refine lv_iadd hx0 hb d_La_law_903 ?_
  refine va_sld hx0 hb hX hbl (Nat.not_le.mpr hbl) hZ.2.2.2.2.2.2.2.2 h1 d_La_law_904 ?_
  refine zl_runT (va_runV (n := 1) (As := [.int (xs (Int32.toNatClampNeg (x4 + (1 : Int32))))]) (rest := [.int r]) ⟨hx0, hb, hml, hown, hts⟩ (c_Md_rank l G2 (xs (Int32.toNatClampNeg (x4 + (1 : Int32)))) M2 (r, N2) e2 H.size) ⟨zcB hts wc_Md_rank wini_Md wm_La_113 (by decide +kernel) rfl rfl ⟨Nat.le_of_ble_eq_true rfl, Nat.le_of_ble_eq_true rfl⟩, hts _ wi_Md_rank, hts _ ws_Md_rank⟩ ⟨zP_blindT, va_recv hZ.2.2.2.1.1 hZ.2.2.2.2.2.1 (ci := 7) (q0 := 0) rfl rfl, zl_PT hZ⟩ rfl rfl hl.1 rfl (lv_room (Nat.le_of_ble_eq_true rfl)) d_La_law_905 ⟨Nat.le_trans (by omega : cl + 0 ≤ 20000) (by decide), Nat.le_trans (by omega : sl + 0 ≤ 200000) (by decide)⟩) hZ (fun H locs hZ => ?_)
  refine lv_icmp_eq (tgt := 1029) hx0 hb d_La_law_908 (by decide) (fun cc9 => ?_) (fun cc9 => ?_)
  · exact kk _ _ _ _ _ _ _ _ (by omega) (by omega) hI hZ (lv_sub hl [0, 1, 2, 3, 4] rfl)
  · exact absurd rfl cc9
set_option maxHeartbeats 4000000 in
set_option maxRecDepth 100000 in
theorem law_bar {p : Program} {l : Launch} {e : Env} {s : State} {m : MethodId} {below : List Frame} {meth : Method} {c : Code} {Q : State → Prop} {H : Heap} {locs : List Loc} {cl sl b L : Nat} {xs : Nat → Int32} {ls : Array Slot} {G1 G2 : zG} {o : Nat} {M1 M2 : Mem} {fo : Nat → Int64} {x4 : Int32} {Inv : Mem → Mem → Prop} (hx0 : p.tables.exec = Jvm.exec) (hb : c.code = code) (hml : c.maxLocals = 8) (hts : ∀ w ∈ zws, w.before #[Value.ref b] s = true) (hown : s.vm.findClass R_La = some m.cls) (hfl : l.flags = pinnedFlags ++ [noTraceFlag]) (hX : va_X b L xs s s.heap) (hbl : b < s.heap.size) (hZX : zX s.heap.size s) (h1 : vp_in (x4 + (1 : Int32)) L) (h2 : vp_in (x4 + (2 : Int32)) L) (h3 : vp_in (x4 + (3 : Int32)) L) (h4 : vp_in (x4 + (4 : Int32)) L) (hcl : cl ≤ 10000) (hsl : sl ≤ 100000) (hZ : ZL G1 G2 o s M1 M2 fo H locs) (hInv : Inv M1 M2) (hl : lv_has ls 8 [(0, .ref b), (1, .ref (G1.1 0)), (2, .ref (G2.1 0)), (3, .ref o), (4, .int x4)]) (hG : Gd_bar Inv) (kk : ∀ (cl' sl' : Nat) (N1 N2 : Mem) (fo' : Nat → Int64) (H1 : Heap) (locs1 : List Loc) (ls1 : Array Slot), cl' ≤ cl + 1 → sl' ≤ sl + 6 → Inv N1 N2 → ZL G1 G2 o s N1 N2 fo' H1 locs1 → lv_has ls1 8 [(0, .ref b), (1, .ref (G1.1 0)), (2, .ref (G2.1 0)), (3, .ref o), (4, .int x4)] → W p l e room_1 s m #[Value.ref b] below meth c H1 locs1 cl' sl' Q (F0 m 1029 ls1 [])) : W p l e room_1 s m #[Value.ref b] below meth c H locs cl sl Q (F0 m 913 ls []) := by
  refine lv_aload_n hx0 hb d_La_law_913 rfl (lv_at hl 1 rfl) ?_
  refine lv_aload_n hx0 hb d_La_law_914 rfl (lv_at hl 0 rfl) ?_
  refine lv_iload hx0 hb d_La_law_915 (lv_at hl 4 rfl) ?_
  refine lv_iconst (v := (1 : Int32)) hx0 hb d_La_law_917 (by decide) ?_
  refine lv_iadd hx0 hb d_La_law_918 ?_
  refine va_sld hx0 hb hX hbl (Nat.not_le.mpr hbl) hZ.2.2.2.2.2.2.2.2 h1 d_La_law_919 ?_
  refine lv_aload_n hx0 hb d_La_law_920 rfl (lv_at hl 0 rfl) ?_
  refine lv_iload hx0 hb d_La_law_921 (lv_at hl 4 rfl) ?_
  refine lv_iconst (v := (2 : Int32)) hx0 hb d_La_law_923 (by decide) ?_
  refine lv_iadd hx0 hb d_La_law_924 ?_
  refine va_sld hx0 hb hX hbl (Nat.not_le.mpr hbl) hZ.2.2.2.2.2.2.2.2 h2 d_La_law_925 ?_
  refine lv_if_eq (tgt := 933) hx0 hb d_La_law_926 (by decide) (fun cc9 => ?_) (fun cc9 => ?_)
  · have c9a := cc9
    obtain ⟨r, N1, N2, e1, e2, hI⟩ := hG M1 M2 hInv (xs (Int32.toNatClampNeg (x4 + (1 : Int32)))) (0 : Int32) (by decide)
    refine lv_iconst (v := (0 : Int32)) hx0 hb d_La_law_933 (by decide) ?_
    refine zl_runC (va_runV (n := 2) (As := [.int (xs (Int32.toNatClampNeg (x4 + (1 : Int32)))), .int (0 : Int32)]) (rest := []) ⟨hx0, hb, hml, hown, hts⟩ (c_ES_bar l G1 (xs (Int32.toNatClampNeg (x4 + (1 : Int32)))) (0 : Int32) M1 (r, N1) e1 H.size) ⟨zcB hts wc_ES_bar wini_ES wm_La_114 (by decide +kernel) rfl rfl ⟨Nat.le_of_ble_eq_true rfl, Nat.le_of_ble_eq_true rfl⟩, hts _ wi_ES_bar, hts _ ws_ES_bar⟩ ⟨zP_blindC, va_recv hZ.2.2.1.1 hZ.2.2.2.2.1 (ci := 6) (q0 := 0) rfl rfl, zl_PC hZ⟩ rfl rfl hl.1 rfl (lv_room (Nat.le_of_ble_eq_true rfl)) d_La_law_934 ⟨Nat.le_trans (by omega : cl + 0 ≤ 20000) (by decide), Nat.le_trans (by omega : sl + 0 ≤ 200000) (by decide)⟩) hZ (fun H locs hZ => ?_)
    refine lv_aload_n hx0 hb d_La_law_937 rfl (lv_at hl 2 rfl) ?_
    refine lv_aload_n hx0 hb d_La_law_938 rfl (lv_at hl 0 rfl) ?_
    refine lv_iload hx0 hb d_La_law_939 (lv_at hl 4 rfl) ?_
    refine lv_iconst (v := (1 : Int32)) hx0 hb d_La_law_941 (by decide) ?_
    refine lv_iadd hx0 hb d_La_law_942 ?_
    refine va_sld hx0 hb hX hbl (Nat.not_le.mpr hbl) hZ.2.2.2.2.2.2.2.2 h1 d_La_law_943 ?_
    refine lv_aload_n hx0 hb d_La_law_944 rfl (lv_at hl 0 rfl) ?_
    refine lv_iload hx0 hb d_La_law_945 (lv_at hl 4 rfl) ?_
    refine lv_iconst (v := (2 : Int32)) hx0 hb d_La_law_947 (by decide) ?_
    refine lv_iadd hx0 hb d_La_law_948 ?_
    refine va_sld hx0 hb hX hbl (Nat.not_le.mpr hbl) hZ.2.2.2.2.2.2.2.2 h2 d_La_law_949 ?_
    refine lv_if_eq (tgt := 957) hx0 hb d_La_law_950 (by decide) (fun cc9 => ?_) (fun cc9 => ?_)
    · refine lv_iconst (v := (0 : Int32)) hx0 hb d_La_law_957 (by decide) ?_
      refine zl_runT (va_runV (n := 2) (As := [.int (xs (Int32.toNatClampNeg (x4 + (1 : Int32)))), .int (0 : Int32)]) (rest := [.int r]) ⟨hx0, hb, hml, hown, hts⟩ (c_Md_bar l G2 (xs (Int32.toNatClampNeg (x4 + (1 : Int32)))) (0 : Int32) M2 (r, N2) e2 H.size) ⟨zcB hts wc_Md_bar wini_Md wm_La_118 (by decide +kernel) rfl rfl ⟨Nat.le_of_ble_eq_true rfl, Nat.le_of_ble_eq_true rfl⟩, hts _ wi_Md_bar, hts _ ws_Md_bar⟩ ⟨zP_blindT, va_recv hZ.2.2.2.1.1 hZ.2.2.2.2.2.1 (ci := 7) (q0 := 0) rfl rfl, zl_PT hZ⟩ rfl rfl hl.1 rfl (lv_room (Nat.le_of_ble_eq_true rfl)) d_La_law_958 ⟨Nat.le_trans (by omega : cl + 0 ≤ 20000) (by decide), Nat.le_trans (by omega : sl + 0 ≤ 200000) (by decide)⟩) hZ (fun H locs hZ => ?_)
      refine lv_icmp_eq (tgt := 1029) hx0 hb d_La_law_961 (by decide) (fun cc9 => ?_) (fun cc9 => ?_)
      · exact kk _ _ _ _ _ _ _ _ (by omega) (by omega) hI hZ (lv_sub hl [0, 1, 2, 3, 4] rfl)
      · exact absurd rfl cc9
    · exact absurd c9a cc9
  · have c9a := cc9
    obtain ⟨r, N1, N2, e1, e2, hI⟩ := hG M1 M2 hInv (xs (Int32.toNatClampNeg (x4 + (1 : Int32)))) (1 : Int32) (by decide)
    refine lv_iconst (v := (1 : Int32)) hx0 hb d_La_law_929 (by decide) ?_
    refine lv_goto (tgt := 934) hx0 hb d_La_law_930 (by decide) ?_
    refine zl_runC (va_runV (n := 2) (As := [.int (xs (Int32.toNatClampNeg (x4 + (1 : Int32)))), .int (1 : Int32)]) (rest := []) ⟨hx0, hb, hml, hown, hts⟩ (c_ES_bar l G1 (xs (Int32.toNatClampNeg (x4 + (1 : Int32)))) (1 : Int32) M1 (r, N1) e1 H.size) ⟨zcB hts wc_ES_bar wini_ES wm_La_114 (by decide +kernel) rfl rfl ⟨Nat.le_of_ble_eq_true rfl, Nat.le_of_ble_eq_true rfl⟩, hts _ wi_ES_bar, hts _ ws_ES_bar⟩ ⟨zP_blindC, va_recv hZ.2.2.1.1 hZ.2.2.2.2.1 (ci := 6) (q0 := 0) rfl rfl, zl_PC hZ⟩ rfl rfl hl.1 rfl (lv_room (Nat.le_of_ble_eq_true rfl)) d_La_law_934 ⟨Nat.le_trans (by omega : cl + 0 ≤ 20000) (by decide), Nat.le_trans (by omega : sl + 0 ≤ 200000) (by decide)⟩) hZ (fun H locs hZ => ?_)
    refine lv_aload_n hx0 hb d_La_law_937 rfl (lv_at hl 2 rfl) ?_
    refine lv_aload_n hx0 hb d_La_law_938 rfl (lv_at hl 0 rfl) ?_
    refine lv_iload hx0 hb d_La_law_939 (lv_at hl 4 rfl) ?_
    refine lv_iconst (v := (1 : Int32)) hx0 hb d_La_law_941 (by decide) ?_
    refine lv_iadd hx0 hb d_La_law_942 ?_
    refine va_sld hx0 hb hX hbl (Nat.not_le.mpr hbl) hZ.2.2.2.2.2.2.2.2 h1 d_La_law_943 ?_
    refine lv_aload_n hx0 hb d_La_law_944 rfl (lv_at hl 0 rfl) ?_
    refine lv_iload hx0 hb d_La_law_945 (lv_at hl 4 rfl) ?_
    refine lv_iconst (v := (2 : Int32)) hx0 hb d_La_law_947 (by decide) ?_
    refine lv_iadd hx0 hb d_La_law_948 ?_
    refine va_sld hx0 hb hX hbl (Nat.not_le.mpr hbl) hZ.2.2.2.2.2.2.2.2 h2 d_La_law_949 ?_
    refine lv_if_eq (tgt := 957) hx0 hb d_La_law_950 (by decide) (fun cc9 => ?_) (fun cc9 => ?_)
    · exact absurd cc9 c9a
    · refine lv_iconst (v := (1 : Int32)) hx0 hb d_La_law_953 (by decide) ?_
      refine lv_goto (tgt := 958) hx0 hb d_La_law_954 (by decide) ?_
      refine zl_runT (va_runV (n := 2) (As := [.int (xs (Int32.toNatClampNeg (x4 + (1 : Int32)))), .int (1 : Int32)]) (rest := [.int r]) ⟨hx0, hb, hml, hown, hts⟩ (c_Md_bar l G2 (xs (Int32.toNatClampNeg (x4 + (1 : Int32)))) (1 : Int32) M2 (r, N2) e2 H.size) ⟨zcB hts wc_Md_bar wini_Md wm_La_118 (by decide +kernel) rfl rfl ⟨Nat.le_of_ble_eq_true rfl, Nat.le_of_ble_eq_true rfl⟩, hts _ wi_Md_bar, hts _ ws_Md_bar⟩ ⟨zP_blindT, va_recv hZ.2.2.2.1.1 hZ.2.2.2.2.2.1 (ci := 7) (q0 := 0) rfl rfl, zl_PT hZ⟩ rfl rfl hl.1 rfl (lv_room (Nat.le_of_ble_eq_true rfl)) d_La_law_958 ⟨Nat.le_trans (by omega : cl + 0 ≤ 20000) (by decide), Nat.le_trans (by omega : sl + 0 ≤ 200000) (by decide)⟩) hZ (fun H locs hZ => ?_)
      refine lv_icmp_eq (tgt := 1029) hx0 hb d_La_law_961 (by decide) (fun cc9 => ?_) (fun cc9 => ?_)
      · exact kk _ _ _ _ _ _ _ _ (by omega) (by omega) hI hZ (lv_sub hl [0, 1, 2, 3, 4] rfl)
      · exact absurd rfl cc9
set_option maxHeartbeats 4000000 in
set_option maxRecDepth 100000 in
theorem law_nearest {p : Program} {l : Launch} {e : Env} {s : State} {m : MethodId} {below : List Frame} {meth : Method} {c : Code} {Q : State → Prop} {H : Heap} {locs : List Loc} {cl sl b L : Nat} {xs : Nat → Int32} {ls : Array Slot} {G1 G2 : zG} {o : Nat} {M1 M2 : Mem} {fo : Nat → Int64} {x4 : Int32} {Inv : Mem → Mem → Prop} (hx0 : p.tables.exec = Jvm.exec) (hb : c.code = code) (hml : c.maxLocals = 8) (hts : ∀ w ∈ zws, w.before #[Value.ref b] s = true) (hown : s.vm.findClass R_La = some m.cls) (hfl : l.flags = pinnedFlags ++ [noTraceFlag]) (hX : va_X b L xs s s.heap) (hbl : b < s.heap.size) (hZX : zX s.heap.size s) (h1 : vp_in (x4 + (1 : Int32)) L) (h2 : vp_in (x4 + (2 : Int32)) L) (h3 : vp_in (x4 + (3 : Int32)) L) (h4 : vp_in (x4 + (4 : Int32)) L) (hcl : cl ≤ 10000) (hsl : sl ≤ 100000) (hZ : ZL G1 G2 o s M1 M2 fo H locs) (hInv : Inv M1 M2) (hl : lv_has ls 8 [(0, .ref b), (1, .ref (G1.1 0)), (2, .ref (G2.1 0)), (3, .ref o), (4, .int x4)]) (hG : Gd_nearest Inv) (kk : ∀ (cl' sl' : Nat) (N1 N2 : Mem) (fo' : Nat → Int64) (H1 : Heap) (locs1 : List Loc) (ls1 : Array Slot), cl' ≤ cl + 1 → sl' ≤ sl + 6 → Inv N1 N2 → ZL G1 G2 o s N1 N2 fo' H1 locs1 → lv_has ls1 8 [(0, .ref b), (1, .ref (G1.1 0)), (2, .ref (G2.1 0)), (3, .ref o), (4, .int x4)] → W p l e room_1 s m #[Value.ref b] below meth c H1 locs1 cl' sl' Q (F0 m 1029 ls1 [])) : W p l e room_1 s m #[Value.ref b] below meth c H locs cl sl Q (F0 m 966 ls []) := by
  obtain ⟨r, N1, N2, e1, e2, hI⟩ := hG M1 M2 hInv (xs (Int32.toNatClampNeg (x4 + (1 : Int32))))
  refine lv_aload_n hx0 hb d_La_law_966 rfl (lv_at hl 1 rfl) ?_
  refine lv_aload_n hx0 hb d_La_law_967 rfl (lv_at hl 0 rfl) ?_
  refine lv_iload hx0 hb d_La_law_968 (lv_at hl 4 rfl) ?_
  refine lv_iconst (v := (1 : Int32)) hx0 hb d_La_law_970 (by decide) ?_
  refine lv_iadd hx0 hb d_La_law_971 ?_
  refine va_sld hx0 hb hX hbl (Nat.not_le.mpr hbl) hZ.2.2.2.2.2.2.2.2 h1 d_La_law_972 ?_
  refine zl_runC (va_runV (n := 1) (As := [.int (xs (Int32.toNatClampNeg (x4 + (1 : Int32))))]) (rest := []) ⟨hx0, hb, hml, hown, hts⟩ (c_ES_nearest l G1 (xs (Int32.toNatClampNeg (x4 + (1 : Int32)))) M1 (r, N1) e1 H.size) ⟨zcB hts wc_ES_nearest wini_ES wm_La_119 (by decide +kernel) rfl rfl ⟨Nat.le_of_ble_eq_true rfl, Nat.le_of_ble_eq_true rfl⟩, hts _ wi_ES_nearest, hts _ ws_ES_nearest⟩ ⟨zP_blindC, va_recv hZ.2.2.1.1 hZ.2.2.2.2.1 (ci := 6) (q0 := 0) rfl rfl, zl_PC hZ⟩ rfl rfl hl.1 rfl (lv_room (Nat.le_of_ble_eq_true rfl)) d_La_law_973 ⟨Nat.le_trans (by omega : cl + 0 ≤ 20000) (by decide), Nat.le_trans (by omega : sl + 0 ≤ 200000) (by decide)⟩) hZ (fun H locs hZ => ?_)
  refine lv_aload_n hx0 hb d_La_law_976 rfl (lv_at hl 2 rfl) ?_
  refine lv_aload_n hx0 hb d_La_law_977 rfl (lv_at hl 0 rfl) ?_
  refine lv_iload hx0 hb d_La_law_978 (lv_at hl 4 rfl) ?_
  refine lv_iconst (v := (1 : Int32)) hx0 hb d_La_law_980 (by decide) ?_
  refine lv_iadd hx0 hb d_La_law_981 ?_
  refine va_sld hx0 hb hX hbl (Nat.not_le.mpr hbl) hZ.2.2.2.2.2.2.2.2 h1 d_La_law_982 ?_
  refine zl_runT (va_runV (n := 1) (As := [.int (xs (Int32.toNatClampNeg (x4 + (1 : Int32))))]) (rest := [.int r]) ⟨hx0, hb, hml, hown, hts⟩ (c_Md_nearest l G2 (xs (Int32.toNatClampNeg (x4 + (1 : Int32)))) M2 (r, N2) e2 H.size) ⟨zcB hts wc_Md_nearest wini_Md wm_La_122 (by decide +kernel) rfl rfl ⟨Nat.le_of_ble_eq_true rfl, Nat.le_of_ble_eq_true rfl⟩, hts _ wi_Md_nearest, hts _ ws_Md_nearest⟩ ⟨zP_blindT, va_recv hZ.2.2.2.1.1 hZ.2.2.2.2.2.1 (ci := 7) (q0 := 0) rfl rfl, zl_PT hZ⟩ rfl rfl hl.1 rfl (lv_room (Nat.le_of_ble_eq_true rfl)) d_La_law_983 ⟨Nat.le_trans (by omega : cl + 0 ≤ 20000) (by decide), Nat.le_trans (by omega : sl + 0 ≤ 200000) (by decide)⟩) hZ (fun H locs hZ => ?_)
  refine lv_icmp_eq (tgt := 1029) hx0 hb d_La_law_986 (by decide) (fun cc9 => ?_) (fun cc9 => ?_)
  · exact kk _ _ _ _ _ _ _ _ (by omega) (by omega) hI hZ (lv_sub hl [0, 1, 2, 3, 4] rfl)
  · exact absurd rfl cc9
set_option maxHeartbeats 4000000 in
set_option maxRecDepth 100000 in
theorem law_nearestAt {p : Program} {l : Launch} {e : Env} {s : State} {m : MethodId} {below : List Frame} {meth : Method} {c : Code} {Q : State → Prop} {H : Heap} {locs : List Loc} {cl sl b L : Nat} {xs : Nat → Int32} {ls : Array Slot} {G1 G2 : zG} {o : Nat} {M1 M2 : Mem} {fo : Nat → Int64} {x4 : Int32} {Inv : Mem → Mem → Prop} (hx0 : p.tables.exec = Jvm.exec) (hb : c.code = code) (hml : c.maxLocals = 8) (hts : ∀ w ∈ zws, w.before #[Value.ref b] s = true) (hown : s.vm.findClass R_La = some m.cls) (hfl : l.flags = pinnedFlags ++ [noTraceFlag]) (hX : va_X b L xs s s.heap) (hbl : b < s.heap.size) (hZX : zX s.heap.size s) (h1 : vp_in (x4 + (1 : Int32)) L) (h2 : vp_in (x4 + (2 : Int32)) L) (h3 : vp_in (x4 + (3 : Int32)) L) (h4 : vp_in (x4 + (4 : Int32)) L) (hcl : cl ≤ 10000) (hsl : sl ≤ 100000) (hZ : ZL G1 G2 o s M1 M2 fo H locs) (hInv : Inv M1 M2) (hl : lv_has ls 8 [(0, .ref b), (1, .ref (G1.1 0)), (2, .ref (G2.1 0)), (3, .ref o), (4, .int x4)]) (hG : Gd_nearestAt Inv) (kk : ∀ (cl' sl' : Nat) (N1 N2 : Mem) (fo' : Nat → Int64) (H1 : Heap) (locs1 : List Loc) (ls1 : Array Slot), cl' ≤ cl + 1 → sl' ≤ sl + 6 → Inv N1 N2 → ZL G1 G2 o s N1 N2 fo' H1 locs1 → lv_has ls1 8 [(0, .ref b), (1, .ref (G1.1 0)), (2, .ref (G2.1 0)), (3, .ref o), (4, .int x4)] → W p l e room_1 s m #[Value.ref b] below meth c H1 locs1 cl' sl' Q (F0 m 1029 ls1 [])) : W p l e room_1 s m #[Value.ref b] below meth c H locs cl sl Q (F0 m 991 ls []) := by
  obtain ⟨r, N1, N2, e1, e2, hI⟩ := hG M1 M2 hInv (xs (Int32.toNatClampNeg (x4 + (1 : Int32)))) (xs (Int32.toNatClampNeg (x4 + (2 : Int32))))
  refine lv_aload_n hx0 hb d_La_law_991 rfl (lv_at hl 1 rfl) ?_
  refine lv_aload_n hx0 hb d_La_law_992 rfl (lv_at hl 0 rfl) ?_
  refine lv_iload hx0 hb d_La_law_993 (lv_at hl 4 rfl) ?_
  refine lv_iconst (v := (1 : Int32)) hx0 hb d_La_law_995 (by decide) ?_
  refine lv_iadd hx0 hb d_La_law_996 ?_
  refine va_sld hx0 hb hX hbl (Nat.not_le.mpr hbl) hZ.2.2.2.2.2.2.2.2 h1 d_La_law_997 ?_
  refine lv_aload_n hx0 hb d_La_law_998 rfl (lv_at hl 0 rfl) ?_
  refine lv_iload hx0 hb d_La_law_999 (lv_at hl 4 rfl) ?_
  refine lv_iconst (v := (2 : Int32)) hx0 hb d_La_law_1001 (by decide) ?_
  refine lv_iadd hx0 hb d_La_law_1002 ?_
  refine va_sld hx0 hb hX hbl (Nat.not_le.mpr hbl) hZ.2.2.2.2.2.2.2.2 h2 d_La_law_1003 ?_
  refine zl_runC (va_runV (n := 2) (As := [.int (xs (Int32.toNatClampNeg (x4 + (1 : Int32)))), .int (xs (Int32.toNatClampNeg (x4 + (2 : Int32))))]) (rest := []) ⟨hx0, hb, hml, hown, hts⟩ (c_ES_nearestAt l G1 (xs (Int32.toNatClampNeg (x4 + (1 : Int32)))) (xs (Int32.toNatClampNeg (x4 + (2 : Int32)))) M1 (r, N1) e1 H.size) ⟨zcB hts wc_ES_nearestAt wini_ES wm_La_123 (by decide +kernel) rfl rfl ⟨Nat.le_of_ble_eq_true rfl, Nat.le_of_ble_eq_true rfl⟩, hts _ wi_ES_nearestAt, hts _ ws_ES_nearestAt⟩ ⟨zP_blindC, va_recv hZ.2.2.1.1 hZ.2.2.2.2.1 (ci := 6) (q0 := 0) rfl rfl, zl_PC hZ⟩ rfl rfl hl.1 rfl (lv_room (Nat.le_of_ble_eq_true rfl)) d_La_law_1004 ⟨Nat.le_trans (by omega : cl + 0 ≤ 20000) (by decide), Nat.le_trans (by omega : sl + 0 ≤ 200000) (by decide)⟩) hZ (fun H locs hZ => ?_)
  refine lv_aload_n hx0 hb d_La_law_1007 rfl (lv_at hl 2 rfl) ?_
  refine lv_aload_n hx0 hb d_La_law_1008 rfl (lv_at hl 0 rfl) ?_
  refine lv_iload hx0 hb d_La_law_1009 (lv_at hl 4 rfl) ?_
  refine lv_iconst (v := (1 : Int32)) hx0 hb d_La_law_1011 (by decide) ?_
  refine lv_iadd hx0 hb d_La_law_1012 ?_
  refine va_sld hx0 hb hX hbl (Nat.not_le.mpr hbl) hZ.2.2.2.2.2.2.2.2 h1 d_La_law_1013 ?_
  refine lv_aload_n hx0 hb d_La_law_1014 rfl (lv_at hl 0 rfl) ?_
  refine lv_iload hx0 hb d_La_law_1015 (lv_at hl 4 rfl) ?_
  refine lv_iconst (v := (2 : Int32)) hx0 hb d_La_law_1017 (by decide) ?_
  refine lv_iadd hx0 hb d_La_law_1018 ?_
  refine va_sld hx0 hb hX hbl (Nat.not_le.mpr hbl) hZ.2.2.2.2.2.2.2.2 h2 d_La_law_1019 ?_
  refine zl_runT (va_runV (n := 2) (As := [.int (xs (Int32.toNatClampNeg (x4 + (1 : Int32)))), .int (xs (Int32.toNatClampNeg (x4 + (2 : Int32))))]) (rest := [.long r]) ⟨hx0, hb, hml, hown, hts⟩ (c_Md_nearestAt l G2 (xs (Int32.toNatClampNeg (x4 + (1 : Int32)))) (xs (Int32.toNatClampNeg (x4 + (2 : Int32)))) M2 (r, N2) e2 H.size) ⟨zcB hts wc_Md_nearestAt wini_Md wm_La_126 (by decide +kernel) rfl rfl ⟨Nat.le_of_ble_eq_true rfl, Nat.le_of_ble_eq_true rfl⟩, hts _ wi_Md_nearestAt, hts _ ws_Md_nearestAt⟩ ⟨zP_blindT, va_recv hZ.2.2.2.1.1 hZ.2.2.2.2.2.1 (ci := 7) (q0 := 0) rfl rfl, zl_PT hZ⟩ rfl rfl hl.1 rfl (lv_room (Nat.le_of_ble_eq_true rfl)) d_La_law_1020 ⟨Nat.le_trans (by omega : cl + 0 ≤ 20000) (by decide), Nat.le_trans (by omega : sl + 0 ≤ 200000) (by decide)⟩) hZ (fun H locs hZ => ?_)
  refine W.lcmp hx0 hb d_La_law_1023 ?_
  refine lv_if_eq (tgt := 1029) hx0 hb d_La_law_1024 (by decide) (fun cc9 => ?_) (fun cc9 => ?_)
  · exact kk _ _ _ _ _ _ _ _ (by omega) (by omega) hI hZ (lv_sub hl [0, 1, 2, 3, 4] rfl)
  · exact absurd (lgc_self _) cc9
