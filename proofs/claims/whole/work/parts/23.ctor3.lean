section ZCGc
variable {R : Room} {s : State} {args : Array Value} {own C host : String} {index n mc ms : Nat} {y : MethodName} {bytes : ByteArray} {maxL : Nat} {ret : Option FieldType} {rm : Room}
theorem zcBc (ht : ∀ w ∈ zws, w.before args s = true) (h1 : Cond.code y bytes maxL ret ∈ zws) (h2 : Cond.initialized y.cls ∈ zws) (h3 : Cond.methodLink own index y ∈ zws) (hd : y.cls ≠ "java/lang/invoke/MethodHandle" ∧ y.cls ≠ "java/lang/invoke/VarHandle" ∧ (parseMethodDescriptor y.desc).map (fun d => d.parameters.length) = some n) (hrc : rm.cells = mc) (hrs : rm.slots = ms) (hR : rm.frames + 1 ≤ R.frames ∧ 8 + (maxL + 11) + rm.locals ≤ R.locals) : CallB R s args own index y bytes maxL ret (Cond.code y bytes maxL ret :: zws) rm mc ms n :=
  callB_of n ht (zgo h1) rfl hrc hrs (ht _ h2) (ht _ h3) hd hR
theorem zcNc (ht : ∀ w ∈ zws, w.before args s = true) (h1 : Cond.code y bytes maxL ret ∈ zws) (h2 : Cond.initialized y.cls ∈ zws) (h3 : va_Nw (.methodLinkNest own index y host) s) (hd : y.cls ≠ "java/lang/invoke/MethodHandle" ∧ y.cls ≠ "java/lang/invoke/VarHandle" ∧ (parseMethodDescriptor y.desc).map (fun d => d.parameters.length) = some n) (hrc : rm.cells = mc) (hrs : rm.slots = ms) (hR : rm.frames + 1 ≤ R.frames ∧ 8 + (maxL + 11) + rm.locals ≤ R.locals) : va_CN R s args own index y host bytes maxL ret (Cond.code y bytes maxL ret :: zws) rm mc ms n :=
  va_cnB n ht (zgo h1) rfl hrc hrs h3 (ht _ h2) hd hR
end ZCGc
abbrev rm_Ln_init : Room := { frames := 1, cells := 7, slots := 160, locals := 32 }
set_option maxHeartbeats 4000000 in
set_option maxRecDepth 100000 in
theorem ct_Ln (l : Launch) (G : zG) (h0 : Nat)  : CtM l G y_Ln_init (Cond.code y_Ln_init b_Ln_init 1 none :: zws) rm_Ln_init h0 [] (.inr (0, [.null, .null, .null, .null, .null, .null, .null, .int 0, .int 0])) (fun w => ∃ (q7 : Nat) (q15 : Nat) (q23 : Nat) (q31 : Nat) (q39 : Nat) (q46 : Nat) (q54 : Nat), w = [(h0, .inr (0, [.ref q7, .ref q15, .ref q23, .ref q31, .ref q39, .ref q46, .ref q54, .int (0 : Int32), .int (0 : Int32)])), (q7, .inl (G.2.1 0, 30, .inl (fun _ => 0))), (q15, .inl (G.2.1 0, 30, .inl (fun _ => 0))), (q23, .inl (G.2.1 0, 30, .inl (fun _ => 0))), (q31, .inl (G.2.1 0, 30, .inl (fun _ => 0))), (q39, .inl (G.2.1 0, 30, .inl (fun _ => 0))), (q46, .inl (G.2.1 0, 4, .inl (fun _ => 0))), (q54, .inl (G.2.1 0, 6, .inl (fun _ => 0)))]) 7 160 := by
  refine z_ofN (lv := [(0, .ref h0)]) (by decide) rfl (Nat.le_of_ble_eq_true rfl) rfl (fun p e R s m args below meth c Q ls F hl hZ => ?_)
  obtain ⟨hx0, hb, hml, hr, hts, hown, hlocks, rfl, hQ, hin⟩ := F
  refine lv_aload_n hx0 hb d_Ln_init_0 rfl (lv_at hl 0 rfl) ?_
  refine W.objInit hx0 hb hown (hts _ wol_Ln) (hts _ woi) (hts _ woc) rfl (by rw [hml]; exact hl.1) rfl d_Ln_init_1 (Nat.le_of_ble_eq_true rfl) (Nat.le_of_ble_eq_true rfl) ?_
  refine W.eq (g2 := F0 m 4 ls []) rfl ?_
  refine lv_aload_n hx0 hb d_Ln_init_4 rfl (lv_at hl 0 rfl) ?_
  refine lv_bipush (v := (30 : Int32)) hx0 hb d_Ln_init_5 (by decide) ?_
  refine zn_newi (N := 30) hx0 hb hts wa_int hZ (by decide) (by decide) (Nat.le_of_ble_eq_true rfl) (Nat.le_of_ble_eq_true rfl) (Nat.le_of_ble_eq_true rfl) d_Ln_init_7 (fun q7 H hZ => ?_)
  have hZ : ZN G h0 s [(h0, .inr (0, [.null, .null, .null, .null, .null, .null, .null, .int 0, .int 0])), (q7, .inl (G.2.1 0, 30, .inl (fun _ => 0)))] H _ := hZ
  refine fc_Ln_columnOf hx0 hb hts hown hin hZ rfl rfl rfl d_Ln_init_9 (fun H locs hZ => ?_)
  have hZ : ZN G h0 s [(h0, .inr (0, [.ref q7, .null, .null, .null, .null, .null, .null, .int 0, .int 0])), (q7, .inl (G.2.1 0, 30, .inl (fun _ => 0)))] H _ := hZ
  refine lv_aload_n hx0 hb d_Ln_init_12 rfl (lv_at hl 0 rfl) ?_
  refine lv_bipush (v := (30 : Int32)) hx0 hb d_Ln_init_13 (by decide) ?_
  refine zn_newi (N := 30) hx0 hb hts wa_int hZ (by decide) (by decide) (Nat.le_of_ble_eq_true rfl) (Nat.le_of_ble_eq_true rfl) (Nat.le_of_ble_eq_true rfl) d_Ln_init_15 (fun q15 H hZ => ?_)
  have hZ : ZN G h0 s [(h0, .inr (0, [.ref q7, .null, .null, .null, .null, .null, .null, .int 0, .int 0])), (q7, .inl (G.2.1 0, 30, .inl (fun _ => 0))), (q15, .inl (G.2.1 0, 30, .inl (fun _ => 0)))] H _ := hZ
  refine fc_Ln_numberOf hx0 hb hts hown hin hZ rfl rfl rfl d_Ln_init_17 (fun H locs hZ => ?_)
  have hZ : ZN G h0 s [(h0, .inr (0, [.ref q7, .ref q15, .null, .null, .null, .null, .null, .int 0, .int 0])), (q7, .inl (G.2.1 0, 30, .inl (fun _ => 0))), (q15, .inl (G.2.1 0, 30, .inl (fun _ => 0)))] H _ := hZ
  refine lv_aload_n hx0 hb d_Ln_init_20 rfl (lv_at hl 0 rfl) ?_
  refine lv_bipush (v := (30 : Int32)) hx0 hb d_Ln_init_21 (by decide) ?_
  refine zn_newi (N := 30) hx0 hb hts wa_int hZ (by decide) (by decide) (Nat.le_of_ble_eq_true rfl) (Nat.le_of_ble_eq_true rfl) (Nat.le_of_ble_eq_true rfl) d_Ln_init_23 (fun q23 H hZ => ?_)
  have hZ : ZN G h0 s [(h0, .inr (0, [.ref q7, .ref q15, .null, .null, .null, .null, .null, .int 0, .int 0])), (q7, .inl (G.2.1 0, 30, .inl (fun _ => 0))), (q15, .inl (G.2.1 0, 30, .inl (fun _ => 0))), (q23, .inl (G.2.1 0, 30, .inl (fun _ => 0)))] H _ := hZ
  refine fc_Ln_lowOf hx0 hb hts hown hin hZ rfl rfl rfl d_Ln_init_25 (fun H locs hZ => ?_)
  have hZ : ZN G h0 s [(h0, .inr (0, [.ref q7, .ref q15, .ref q23, .null, .null, .null, .null, .int 0, .int 0])), (q7, .inl (G.2.1 0, 30, .inl (fun _ => 0))), (q15, .inl (G.2.1 0, 30, .inl (fun _ => 0))), (q23, .inl (G.2.1 0, 30, .inl (fun _ => 0)))] H _ := hZ
  refine lv_aload_n hx0 hb d_Ln_init_28 rfl (lv_at hl 0 rfl) ?_
  refine lv_bipush (v := (30 : Int32)) hx0 hb d_Ln_init_29 (by decide) ?_
  refine zn_newi (N := 30) hx0 hb hts wa_int hZ (by decide) (by decide) (Nat.le_of_ble_eq_true rfl) (Nat.le_of_ble_eq_true rfl) (Nat.le_of_ble_eq_true rfl) d_Ln_init_31 (fun q31 H hZ => ?_)
  have hZ : ZN G h0 s [(h0, .inr (0, [.ref q7, .ref q15, .ref q23, .null, .null, .null, .null, .int 0, .int 0])), (q7, .inl (G.2.1 0, 30, .inl (fun _ => 0))), (q15, .inl (G.2.1 0, 30, .inl (fun _ => 0))), (q23, .inl (G.2.1 0, 30, .inl (fun _ => 0))), (q31, .inl (G.2.1 0, 30, .inl (fun _ => 0)))] H _ := hZ
  refine fc_Ln_highOf hx0 hb hts hown hin hZ rfl rfl rfl d_Ln_init_33 (fun H locs hZ => ?_)
  have hZ : ZN G h0 s [(h0, .inr (0, [.ref q7, .ref q15, .ref q23, .ref q31, .null, .null, .null, .int 0, .int 0])), (q7, .inl (G.2.1 0, 30, .inl (fun _ => 0))), (q15, .inl (G.2.1 0, 30, .inl (fun _ => 0))), (q23, .inl (G.2.1 0, 30, .inl (fun _ => 0))), (q31, .inl (G.2.1 0, 30, .inl (fun _ => 0)))] H _ := hZ
  refine lv_aload_n hx0 hb d_Ln_init_36 rfl (lv_at hl 0 rfl) ?_
  refine lv_bipush (v := (30 : Int32)) hx0 hb d_Ln_init_37 (by decide) ?_
  refine zn_newi (N := 30) hx0 hb hts wa_int hZ (by decide) (by decide) (Nat.le_of_ble_eq_true rfl) (Nat.le_of_ble_eq_true rfl) (Nat.le_of_ble_eq_true rfl) d_Ln_init_39 (fun q39 H hZ => ?_)
  have hZ : ZN G h0 s [(h0, .inr (0, [.ref q7, .ref q15, .ref q23, .ref q31, .null, .null, .null, .int 0, .int 0])), (q7, .inl (G.2.1 0, 30, .inl (fun _ => 0))), (q15, .inl (G.2.1 0, 30, .inl (fun _ => 0))), (q23, .inl (G.2.1 0, 30, .inl (fun _ => 0))), (q31, .inl (G.2.1 0, 30, .inl (fun _ => 0))), (q39, .inl (G.2.1 0, 30, .inl (fun _ => 0)))] H _ := hZ
  refine fc_Ln_peaks hx0 hb hts hown hin hZ rfl rfl rfl d_Ln_init_41 (fun H locs hZ => ?_)
  have hZ : ZN G h0 s [(h0, .inr (0, [.ref q7, .ref q15, .ref q23, .ref q31, .ref q39, .null, .null, .int 0, .int 0])), (q7, .inl (G.2.1 0, 30, .inl (fun _ => 0))), (q15, .inl (G.2.1 0, 30, .inl (fun _ => 0))), (q23, .inl (G.2.1 0, 30, .inl (fun _ => 0))), (q31, .inl (G.2.1 0, 30, .inl (fun _ => 0))), (q39, .inl (G.2.1 0, 30, .inl (fun _ => 0)))] H _ := hZ
  refine lv_aload_n hx0 hb d_Ln_init_44 rfl (lv_at hl 0 rfl) ?_
  refine lv_iconst (v := (4 : Int32)) hx0 hb d_Ln_init_45 (by decide) ?_
  refine zn_newi (N := 4) hx0 hb hts wa_int hZ (by decide) (by decide) (Nat.le_of_ble_eq_true rfl) (Nat.le_of_ble_eq_true rfl) (Nat.le_of_ble_eq_true rfl) d_Ln_init_46 (fun q46 H hZ => ?_)
  have hZ : ZN G h0 s [(h0, .inr (0, [.ref q7, .ref q15, .ref q23, .ref q31, .ref q39, .null, .null, .int 0, .int 0])), (q7, .inl (G.2.1 0, 30, .inl (fun _ => 0))), (q15, .inl (G.2.1 0, 30, .inl (fun _ => 0))), (q23, .inl (G.2.1 0, 30, .inl (fun _ => 0))), (q31, .inl (G.2.1 0, 30, .inl (fun _ => 0))), (q39, .inl (G.2.1 0, 30, .inl (fun _ => 0))), (q46, .inl (G.2.1 0, 4, .inl (fun _ => 0)))] H _ := hZ
  refine fc_Ln_roots hx0 hb hts hown hin hZ rfl rfl rfl d_Ln_init_48 (fun H locs hZ => ?_)
  have hZ : ZN G h0 s [(h0, .inr (0, [.ref q7, .ref q15, .ref q23, .ref q31, .ref q39, .ref q46, .null, .int 0, .int 0])), (q7, .inl (G.2.1 0, 30, .inl (fun _ => 0))), (q15, .inl (G.2.1 0, 30, .inl (fun _ => 0))), (q23, .inl (G.2.1 0, 30, .inl (fun _ => 0))), (q31, .inl (G.2.1 0, 30, .inl (fun _ => 0))), (q39, .inl (G.2.1 0, 30, .inl (fun _ => 0))), (q46, .inl (G.2.1 0, 4, .inl (fun _ => 0)))] H _ := hZ
  refine lv_aload_n hx0 hb d_Ln_init_51 rfl (lv_at hl 0 rfl) ?_
  refine lv_bipush (v := (6 : Int32)) hx0 hb d_Ln_init_52 (by decide) ?_
  refine zn_newi (N := 6) hx0 hb hts wa_int hZ (by decide) (by decide) (Nat.le_of_ble_eq_true rfl) (Nat.le_of_ble_eq_true rfl) (Nat.le_of_ble_eq_true rfl) d_Ln_init_54 (fun q54 H hZ => ?_)
  have hZ : ZN G h0 s [(h0, .inr (0, [.ref q7, .ref q15, .ref q23, .ref q31, .ref q39, .ref q46, .null, .int 0, .int 0])), (q7, .inl (G.2.1 0, 30, .inl (fun _ => 0))), (q15, .inl (G.2.1 0, 30, .inl (fun _ => 0))), (q23, .inl (G.2.1 0, 30, .inl (fun _ => 0))), (q31, .inl (G.2.1 0, 30, .inl (fun _ => 0))), (q39, .inl (G.2.1 0, 30, .inl (fun _ => 0))), (q46, .inl (G.2.1 0, 4, .inl (fun _ => 0))), (q54, .inl (G.2.1 0, 6, .inl (fun _ => 0)))] H _ := hZ
  refine fc_Ln_weights hx0 hb hts hown hin hZ rfl rfl rfl d_Ln_init_56 (fun H locs hZ => ?_)
  have hZ : ZN G h0 s [(h0, .inr (0, [.ref q7, .ref q15, .ref q23, .ref q31, .ref q39, .ref q46, .ref q54, .int 0, .int 0])), (q7, .inl (G.2.1 0, 30, .inl (fun _ => 0))), (q15, .inl (G.2.1 0, 30, .inl (fun _ => 0))), (q23, .inl (G.2.1 0, 30, .inl (fun _ => 0))), (q31, .inl (G.2.1 0, 30, .inl (fun _ => 0))), (q39, .inl (G.2.1 0, 30, .inl (fun _ => 0))), (q46, .inl (G.2.1 0, 4, .inl (fun _ => 0))), (q54, .inl (G.2.1 0, 6, .inl (fun _ => 0)))] H _ := hZ
  refine lv_aload_n hx0 hb d_Ln_init_59 rfl (lv_at hl 0 rfl) ?_
  refine lv_iconst (v := (0 : Int32)) hx0 hb d_Ln_init_60 (by decide) ?_
  refine fc_Ln_nodeCount hx0 hb hts hown hin hZ rfl rfl rfl d_Ln_init_61 (fun H locs hZ => ?_)
  have hZ : ZN G h0 s [(h0, .inr (0, [.ref q7, .ref q15, .ref q23, .ref q31, .ref q39, .ref q46, .ref q54, .int (0 : Int32), .int 0])), (q7, .inl (G.2.1 0, 30, .inl (fun _ => 0))), (q15, .inl (G.2.1 0, 30, .inl (fun _ => 0))), (q23, .inl (G.2.1 0, 30, .inl (fun _ => 0))), (q31, .inl (G.2.1 0, 30, .inl (fun _ => 0))), (q39, .inl (G.2.1 0, 30, .inl (fun _ => 0))), (q46, .inl (G.2.1 0, 4, .inl (fun _ => 0))), (q54, .inl (G.2.1 0, 6, .inl (fun _ => 0)))] H _ := hZ
  refine lv_aload_n hx0 hb d_Ln_init_64 rfl (lv_at hl 0 rfl) ?_
  refine lv_iconst (v := (0 : Int32)) hx0 hb d_Ln_init_65 (by decide) ?_
  refine fc_Ln_rootCount hx0 hb hts hown hin hZ rfl rfl rfl d_Ln_init_66 (fun H locs hZ => ?_)
  have hZ : ZN G h0 s [(h0, .inr (0, [.ref q7, .ref q15, .ref q23, .ref q31, .ref q39, .ref q46, .ref q54, .int (0 : Int32), .int (0 : Int32)])), (q7, .inl (G.2.1 0, 30, .inl (fun _ => 0))), (q15, .inl (G.2.1 0, 30, .inl (fun _ => 0))), (q23, .inl (G.2.1 0, 30, .inl (fun _ => 0))), (q31, .inl (G.2.1 0, 30, .inl (fun _ => 0))), (q39, .inl (G.2.1 0, 30, .inl (fun _ => 0))), (q46, .inl (G.2.1 0, 4, .inl (fun _ => 0))), (q54, .inl (G.2.1 0, 6, .inl (fun _ => 0)))] H _ := hZ
  exact zn_vret hx0 hb hr hZ hlocks hQ ⟨q7, q15, q23, q31, q39, q46, q54, rfl⟩ (Nat.le_of_ble_eq_true rfl) (Nat.le_of_ble_eq_true rfl) d_Ln_init_69
abbrev rm_Rw_init : Room := { frames := 1, cells := 7, slots := 41, locals := 32 }
set_option maxHeartbeats 4000000 in
set_option maxRecDepth 100000 in
theorem ct_Rw (l : Launch) (G : zG) (h0 : Nat)  : CtM l G y_Rw_init (Cond.code y_Rw_init b_Rw_init 1 none :: zws) rm_Rw_init h0 [] (.inr (1, [.null, .null, .int 0])) (fun w => ∃ (q7 : Nat) (q16 : Nat) (r16 : Nat → Nat), w = [(h0, .inr (1, [.ref q7, .ref q16, .int (0 : Int32)])), (q7, .inl (G.2.1 0, 6, .inl (fun _ => 0))), (q16, .inl (G.2.1 3, 5, .inr (.inr (.inr (.inr (fun i => some (r16 i))))))), (r16 0, .inl (G.2.1 0, 6, .inl (fun _ => 0))), (r16 1, .inl (G.2.1 0, 6, .inl (fun _ => 0))), (r16 2, .inl (G.2.1 0, 6, .inl (fun _ => 0))), (r16 3, .inl (G.2.1 0, 6, .inl (fun _ => 0))), (r16 4, .inl (G.2.1 0, 6, .inl (fun _ => 0)))]) 7 41 := by
  refine z_ofN (lv := [(0, .ref h0)]) (by decide) rfl (Nat.le_of_ble_eq_true rfl) rfl (fun p e R s m args below meth c Q ls F hl hZ => ?_)
  obtain ⟨hx0, hb, hml, hr, hts, hown, hlocks, rfl, hQ, hin⟩ := F
  refine lv_aload_n hx0 hb d_Rw_init_0 rfl (lv_at hl 0 rfl) ?_
  refine W.objInit hx0 hb hown (hts _ wol_Rw) (hts _ woi) (hts _ woc) rfl (by rw [hml]; exact hl.1) rfl d_Rw_init_1 (Nat.le_of_ble_eq_true rfl) (Nat.le_of_ble_eq_true rfl) ?_
  refine W.eq (g2 := F0 m 4 ls []) rfl ?_
  refine lv_aload_n hx0 hb d_Rw_init_4 rfl (lv_at hl 0 rfl) ?_
  refine lv_bipush (v := (6 : Int32)) hx0 hb d_Rw_init_5 (by decide) ?_
  refine zn_newi (N := 6) hx0 hb hts wa_int hZ (by decide) (by decide) (Nat.le_of_ble_eq_true rfl) (Nat.le_of_ble_eq_true rfl) (Nat.le_of_ble_eq_true rfl) d_Rw_init_7 (fun q7 H hZ => ?_)
  have hZ : ZN G h0 s [(h0, .inr (1, [.null, .null, .int 0])), (q7, .inl (G.2.1 0, 6, .inl (fun _ => 0)))] H _ := hZ
  refine fc_Rw_looked hx0 hb hts hown hin hZ rfl rfl rfl d_Rw_init_9 (fun H locs hZ => ?_)
  have hZ : ZN G h0 s [(h0, .inr (1, [.ref q7, .null, .int 0])), (q7, .inl (G.2.1 0, 6, .inl (fun _ => 0)))] H _ := hZ
  refine lv_aload_n hx0 hb d_Rw_init_12 rfl (lv_at hl 0 rfl) ?_
  refine lv_iconst (v := (5 : Int32)) hx0 hb d_Rw_init_13 (by decide) ?_
  refine lv_bipush (v := (6 : Int32)) hx0 hb d_Rw_init_14 (by decide) ?_
  refine zn_mna (N := 5) (K := 6) hx0 hb hts hown wcl_Rw_15 wa_int hZ (by decide) (by decide) (by decide) (by decide) (Nat.le_of_ble_eq_true rfl) (Nat.le_of_ble_eq_true rfl) (Nat.le_of_ble_eq_true rfl) (Nat.le_of_ble_eq_true rfl) d_Rw_init_16 (fun q16 r16 H hZ => ?_)
  have hZ : ZN G h0 s [(h0, .inr (1, [.ref q7, .null, .int 0])), (q7, .inl (G.2.1 0, 6, .inl (fun _ => 0))), (q16, .inl (G.2.1 3, 5, .inr (.inr (.inr (.inr (fun i => some (r16 i))))))), (r16 0, .inl (G.2.1 0, 6, .inl (fun _ => 0))), (r16 1, .inl (G.2.1 0, 6, .inl (fun _ => 0))), (r16 2, .inl (G.2.1 0, 6, .inl (fun _ => 0))), (r16 3, .inl (G.2.1 0, 6, .inl (fun _ => 0))), (r16 4, .inl (G.2.1 0, 6, .inl (fun _ => 0)))] H _ := hZ
  refine fc_Rw_behind hx0 hb hts hown hin hZ rfl rfl rfl d_Rw_init_20 (fun H locs hZ => ?_)
  have hZ : ZN G h0 s [(h0, .inr (1, [.ref q7, .ref q16, .int 0])), (q7, .inl (G.2.1 0, 6, .inl (fun _ => 0))), (q16, .inl (G.2.1 3, 5, .inr (.inr (.inr (.inr (fun i => some (r16 i))))))), (r16 0, .inl (G.2.1 0, 6, .inl (fun _ => 0))), (r16 1, .inl (G.2.1 0, 6, .inl (fun _ => 0))), (r16 2, .inl (G.2.1 0, 6, .inl (fun _ => 0))), (r16 3, .inl (G.2.1 0, 6, .inl (fun _ => 0))), (r16 4, .inl (G.2.1 0, 6, .inl (fun _ => 0)))] H _ := hZ
  refine lv_aload_n hx0 hb d_Rw_init_23 rfl (lv_at hl 0 rfl) ?_
  refine lv_iconst (v := (0 : Int32)) hx0 hb d_Rw_init_24 (by decide) ?_
  refine fc_Rw_count hx0 hb hts hown hin hZ rfl rfl rfl d_Rw_init_25 (fun H locs hZ => ?_)
  have hZ : ZN G h0 s [(h0, .inr (1, [.ref q7, .ref q16, .int (0 : Int32)])), (q7, .inl (G.2.1 0, 6, .inl (fun _ => 0))), (q16, .inl (G.2.1 3, 5, .inr (.inr (.inr (.inr (fun i => some (r16 i))))))), (r16 0, .inl (G.2.1 0, 6, .inl (fun _ => 0))), (r16 1, .inl (G.2.1 0, 6, .inl (fun _ => 0))), (r16 2, .inl (G.2.1 0, 6, .inl (fun _ => 0))), (r16 3, .inl (G.2.1 0, 6, .inl (fun _ => 0))), (r16 4, .inl (G.2.1 0, 6, .inl (fun _ => 0)))] H _ := hZ
  exact zn_vret hx0 hb hr hZ hlocks hQ ⟨q7, q16, r16, rfl⟩ (Nat.le_of_ble_eq_true rfl) (Nat.le_of_ble_eq_true rfl) d_Rw_init_28
abbrev rm_Or_init : Room := { frames := 1, cells := 1, slots := 6, locals := 32 }
set_option maxHeartbeats 4000000 in
set_option maxRecDepth 100000 in
theorem ct_Or (l : Launch) (G : zG) (h0 : Nat) (a1 : Nat) : CtM l G y_Or_init (Cond.code y_Or_init b_Or_init 2 none :: zws) rm_Or_init h0 [.ref a1] (.inr (3, [.null, .null, .int 0, .int 0])) (fun w => ∃ (q7 : Nat), w = [(h0, .inr (3, [.ref a1, .ref q7, .int (0 : Int32), .int (0 : Int32)])), (q7, .inl (G.2.1 0, 6, .inl (fun _ => 0)))]) 1 6 := by
  refine z_ofN (lv := [(0, .ref h0), (1, .ref a1)]) (by decide) rfl (Nat.le_of_ble_eq_true rfl) rfl (fun p e R s m args below meth c Q ls F hl hZ => ?_)
  obtain ⟨hx0, hb, hml, hr, hts, hown, hlocks, rfl, hQ, hin⟩ := F
  refine lv_aload_n hx0 hb d_Or_init_0 rfl (lv_at hl 0 rfl) ?_
  refine W.objInit hx0 hb hown (hts _ wol_Or) (hts _ woi) (hts _ woc) rfl (by rw [hml]; exact hl.1) rfl d_Or_init_1 (Nat.le_of_ble_eq_true rfl) (Nat.le_of_ble_eq_true rfl) ?_
  refine W.eq (g2 := F0 m 4 ls []) rfl ?_
  refine lv_aload_n hx0 hb d_Or_init_4 rfl (lv_at hl 0 rfl) ?_
  refine lv_bipush (v := (6 : Int32)) hx0 hb d_Or_init_5 (by decide) ?_
  refine zn_newi (N := 6) hx0 hb hts wa_int hZ (by decide) (by decide) (Nat.le_of_ble_eq_true rfl) (Nat.le_of_ble_eq_true rfl) (Nat.le_of_ble_eq_true rfl) d_Or_init_7 (fun q7 H hZ => ?_)
  have hZ : ZN G h0 s [(h0, .inr (3, [.null, .null, .int 0, .int 0])), (q7, .inl (G.2.1 0, 6, .inl (fun _ => 0)))] H _ := hZ
  refine fc_Or_order hx0 hb hts hown hin hZ rfl rfl rfl d_Or_init_9 (fun H locs hZ => ?_)
  have hZ : ZN G h0 s [(h0, .inr (3, [.null, .ref q7, .int 0, .int 0])), (q7, .inl (G.2.1 0, 6, .inl (fun _ => 0)))] H _ := hZ
  refine lv_aload_n hx0 hb d_Or_init_12 rfl (lv_at hl 0 rfl) ?_
  refine lv_iconst (v := (0 : Int32)) hx0 hb d_Or_init_13 (by decide) ?_
  refine fc_Or_count hx0 hb hts hown hin hZ rfl rfl rfl d_Or_init_14 (fun H locs hZ => ?_)
  have hZ : ZN G h0 s [(h0, .inr (3, [.null, .ref q7, .int (0 : Int32), .int 0])), (q7, .inl (G.2.1 0, 6, .inl (fun _ => 0)))] H _ := hZ
  refine lv_aload_n hx0 hb d_Or_init_17 rfl (lv_at hl 0 rfl) ?_
  refine lv_iconst (v := (0 : Int32)) hx0 hb d_Or_init_18 (by decide) ?_
  refine fc_Or_z hx0 hb hts hown hin hZ rfl rfl rfl d_Or_init_19 (fun H locs hZ => ?_)
  have hZ : ZN G h0 s [(h0, .inr (3, [.null, .ref q7, .int (0 : Int32), .int (0 : Int32)])), (q7, .inl (G.2.1 0, 6, .inl (fun _ => 0)))] H _ := hZ
  refine lv_aload_n hx0 hb d_Or_init_22 rfl (lv_at hl 0 rfl) ?_
  refine lv_aload_n hx0 hb d_Or_init_23 rfl (lv_at hl 1 rfl) ?_
  refine fc_Or_groups hx0 hb hts hown hin hZ rfl rfl rfl d_Or_init_24 (fun H locs hZ => ?_)
  have hZ : ZN G h0 s [(h0, .inr (3, [.ref a1, .ref q7, .int (0 : Int32), .int (0 : Int32)])), (q7, .inl (G.2.1 0, 6, .inl (fun _ => 0)))] H _ := hZ
  exact zn_vret hx0 hb hr hZ hlocks hQ ⟨q7, rfl⟩ (Nat.le_of_ble_eq_true rfl) (Nat.le_of_ble_eq_true rfl) d_Or_init_27
