def vset (V : Vw) (k c : Nat) (v : Int32) : Vw := fun q => if q = k then upd (V k) c v else V q
theorem vset_ne {V : Vw} {k c q : Nat} {v : Int32} (h : q ≠ k) : vset V k c v q = V q := by
  show (if q = k then _ else V q) = _
  rw [if_neg h]
theorem vset_at {V : Vw} {k c : Nat} {v : Int32} (j : Nat) : vset V k c v k j = if j = c then v else V k j := by
  show (if k = k then upd (V k) c v else V k) j = _
  rw [if_pos rfl]
  rfl
theorem RT.set {V : Vw} {M : Mem} (T : RT V M) {k c : Nat} {v : Int32} (h1 : 1 ≤ k) (h2 : k ≤ 10) (hc : c < 2 ^ 31) : RT (vset V k c v) (wI M k (nI c) v) := by
  refine ⟨fun q a b => ?_, ?_, ?_, ?_, ?_⟩
  · by_cases e : q = k
    · subst e
      funext j
      rw [wI_at hc, vset_at, T.1 q a b]
    · rw [wI_ne e, vset_ne e, T.1 q a b]
  · rw [wI_ne (by omega), vset_ne (by omega)]; exact T.2.1
  · rw [wI_ne (by omega), vset_ne (by omega)]; exact T.2.2.1
  · rw [wI_ne (by omega), vset_ne (by omega)]; exact T.2.2.2.1
  · rw [wI_ne (by omega), vset_ne (by omega)]; exact T.2.2.2.2
theorem g_weight : Gd_weight Inv := by
  intro M1 M2 ⟨n, N, R, B, V, W, C, T⟩ a1 a2
  have hb := W.2.1
  have T1 : RT V (wF M2 0 0 0) := T.sF (Or.inl rfl)
  have wc : ∀ M : Mem, p_ES_isWithin a2 20 M = some (if isW a2 20 = true then 1 else 0) := fun M => e_within (b := 20) (by omega)
  have wm : ∀ M : Mem, p_Md_in a2 (-20) 20 M = some (if isW a2 20 = true then 1 else 0) := fun M => e_inW (b := 20) (by omega) (by decide)
  by_cases ca : inb a1 n = true
  · by_cases cm : isW a2 20 = true
    · obtain ⟨f1, f2⟩ := inb_eq ca
      have i6 := inb_mono ca hb.2.1
      have hv : -20 ≤ a2.toInt ∧ a2.toInt ≤ 20 := by
        unfold isW at cm
        simpa using cm
      generalize a1.toNatClampNeg = c at f1 f2
      refine ⟨1, wI M1 8 (nI c) a2, wI (wF M2 0 0 0) 7 (nI c) a2, ?_, ?_, n, N, R, B, vset V 7 c a2, ?_, ?_, T1.set (by omega) (by omega) (by omega)⟩
      · unfold p_ES_weight p_Ln_weigh
        rw [bnd_e (e_isCol W C), if_pos ca, if_neg one_ne, bnd_e (wc _), if_pos cm, if_neg one_ne, chk_t i6, f1]
        rfl
      · unfold p_Md_weight
        rw [nm_s, bnd_e (e_mdCol W T1), if_pos ca, if_neg one_ne, bnd_e (wm _), if_pos cm, if_neg one_ne, chk_t i6, f1]
        rfl
      · refine ⟨W.1, W.2.1, W.2.2.1, W.2.2.2.1, fun k hk => ?_, W.2.2.2.2.2.1, W.2.2.2.2.2.2.1, W.2.2.2.2.2.2.2⟩
        rw [vset_at]
        by_cases e : k = c
        · rw [if_pos e]; exact ⟨hv, fun h => by omega⟩
        · rw [if_neg e]; exact W.2.2.2.2.1 k hk
      · refine ⟨C.1, C.2.1, C.2.2.1, fun k hk => ?_, C.2.2.2.2.1, ?_, C.2.2.2.2.2.2.1, C.2.2.2.2.2.2.2⟩
        · rw [wI_at (by omega), vset_at, C.2.2.2.1 k hk]
        · intro r hr k hk
          rw [wI_ne (by omega), vset_ne (by omega)]
          exact C.2.2.2.2.2.1 r hr k hk
    · refine ⟨-2, M1, wF M2 0 0 0, ?_, ?_, n, N, R, B, V, W, C, T1⟩
      · unfold p_ES_weight; rw [bnd_e (e_isCol W C), if_pos ca, if_neg one_ne, bnd_e (wc _), if_neg cm, if_pos rfl]
      · unfold p_Md_weight; rw [nm_s, bnd_e (e_mdCol W T1), if_pos ca, if_neg one_ne, bnd_e (wm _), if_neg cm, if_pos rfl]
  · refine ⟨-1, M1, wF M2 0 0 0, ?_, ?_, n, N, R, B, V, W, C, T1⟩
    · unfold p_ES_weight; rw [bnd_e (e_isCol W C), if_neg ca, if_pos rfl]
    · unfold p_Md_weight; rw [nm_s, bnd_e (e_mdCol W T1), if_neg ca, if_pos rfl]
theorem g_group : Gd_group Inv := by
  intro M1 M2 ⟨n, N, R, B, V, W, C, T⟩ a1 a2
  have hb := W.2.1
  have T1 : RT V (wF M2 0 0 0) := T.sF (Or.inl rfl)
  have wm := e_inN (M := wF M2 0 0 0) (a := a2) (k := n) (by omega) (by omega) (T1.2.1.trans W.1.1)
  by_cases ca : inb a1 n = true
  · by_cases cm : inb a2 n = true
    · obtain ⟨f1, f2⟩ := inb_eq ca
      have i6 := inb_mono ca hb.2.1
      have hv := C.2.2.2.2.2.2.1 a1.toNatClampNeg (by omega)
      have ht : (wF M2 0 0 0).1 8 a1.toNatClampNeg = V 8 a1.toNatClampNeg := by rw [T1.1 8 (by omega) (by omega)]
      generalize a1.toNatClampNeg = c at f1 f2 hv ht
      have ec : (nI c).toNatClampNeg = c := nI_clamp (by omega)
      subst f1
      refine ⟨V 8 c, wI M1 18 (nI c) a2, wI (wF M2 0 0 0) 8 (nI c) a2, ?_, ?_, n, N, R, B, vset V 8 c a2, ?_, ?_, T1.set (by omega) (by omega) (by omega)⟩
      · unfold p_ES_group p_Gr_move
        rw [bnd_e (e_isCol W C), if_pos ca, if_neg one_ne, bnd_e (e_isCol W C), if_pos cm, if_neg one_ne, chk_t i6, chk_t i6, ec, hv]
        rfl
      · unfold p_Md_group
        rw [nm_s, bnd_e (e_mdCol W T1), if_pos ca, if_neg one_ne, bnd_e wm, if_pos cm, if_neg one_ne, chk_t i6, chk_t i6, ec, ht]
        rfl
      · refine ⟨W.1, W.2.1, W.2.2.1, W.2.2.2.1, W.2.2.2.2.1, W.2.2.2.2.2.1, fun k hk => ?_, W.2.2.2.2.2.2.2⟩
        rw [vset_at]
        by_cases e : k = c
        · rw [if_pos e]; exact ⟨inb_mono cm hb.2.1, fun _ => cm⟩
        · rw [if_neg e]; exact W.2.2.2.2.2.2.1 k hk
      · refine ⟨C.1, C.2.1, C.2.2.1, C.2.2.2.1, C.2.2.2.2.1, ?_, fun k hk => ?_, C.2.2.2.2.2.2.2⟩
        · intro r hr k hk
          rw [wI_ne (by omega), vset_ne (by omega)]
          exact C.2.2.2.2.2.1 r hr k hk
        · rw [wI_at (by omega), vset_at, C.2.2.2.2.2.2.1 k hk]
    · refine ⟨-2, M1, wF M2 0 0 0, ?_, ?_, n, N, R, B, V, W, C, T1⟩
      · unfold p_ES_group; rw [bnd_e (e_isCol W C), if_pos ca, if_neg one_ne, bnd_e (e_isCol W C), if_neg cm, if_pos rfl]
      · unfold p_Md_group; rw [nm_s, bnd_e (e_mdCol W T1), if_pos ca, if_neg one_ne, bnd_e wm, if_neg cm, if_pos rfl]
  · refine ⟨-1, M1, wF M2 0 0 0, ?_, ?_, n, N, R, B, V, W, C, T1⟩
    · unfold p_ES_group; rw [bnd_e (e_isCol W C), if_neg ca, if_pos rfl]
    · unfold p_Md_group; rw [nm_s, bnd_e (e_mdCol W T1), if_neg ca, if_pos rfl]
theorem g_bar : Gd_bar Inv := by
  intro M1 M2 ⟨n, N, R, B, V, W, C, T⟩ a1 a2 h2
  have hb := W.2.1
  have T1 : RT V (wF M2 0 0 0) := T.sF (Or.inl rfl)
  have hn : vp_nar .boolean a2 = a2 := by
    rcases h2 with rfl | rfl <;> decide
  by_cases ca : inb a1 n = true
  · obtain ⟨f1, f2⟩ := inb_eq ca
    have i6 := inb_mono ca hb.2.1
    have hv := C.2.2.2.2.2.2.2 a1.toNatClampNeg (by omega)
    have ht : (wF M2 0 0 0).1 9 a1.toNatClampNeg = V 9 a1.toNatClampNeg := by rw [T1.1 9 (by omega) (by omega)]
    have hw := W.2.2.2.2.2.2.2 a1.toNatClampNeg (by omega)
    generalize a1.toNatClampNeg = c at f1 f2 hv ht hw
    have ec : (nI c).toNatClampNeg = c := nI_clamp (by omega)
    subst f1
    refine ⟨V 9 c, wI M1 25 (nI c) a2, wI (wF M2 0 0 0) 9 (nI c) a2, ?_, ?_, n, N, R, B, vset V 9 c a2, ?_, ?_, T1.set (by omega) (by omega) (by omega)⟩
    · unfold p_ES_bar p_Se_setBarred
      rw [bnd_e (e_isCol W C), if_pos ca, if_neg one_ne, chk_t i6, chk_t i6, nm_s, hn, ec, hv]
      rcases hw with e | e
      · rw [e]; rfl
      · rw [e]; rfl
    · unfold p_Md_bar
      rw [nm_s, bnd_e (e_mdCol W T1), if_pos ca, if_neg one_ne, chk_t i6, chk_t i6, chk_t i6, ec, ht, hn]
      rcases hw with e | e
      · rw [e, if_pos rfl]; rfl
      · rw [e, if_neg one_ne]; rfl
    · refine ⟨W.1, W.2.1, W.2.2.1, W.2.2.2.1, W.2.2.2.2.1, W.2.2.2.2.2.1, W.2.2.2.2.2.2.1, fun k hk => ?_⟩
      rw [vset_at]
      by_cases e : k = c
      · rw [if_pos e]; exact h2
      · rw [if_neg e]; exact W.2.2.2.2.2.2.2 k hk
    · refine ⟨C.1, C.2.1, C.2.2.1, C.2.2.2.1, C.2.2.2.2.1, ?_, C.2.2.2.2.2.2.1, fun k hk => ?_⟩
      · intro r hr k hk
        rw [wI_ne (by omega), vset_ne (by omega)]
        exact C.2.2.2.2.2.1 r hr k hk
      · rw [wI_at (by omega), vset_at, C.2.2.2.2.2.2.2 k hk]
  · refine ⟨-1, M1, wF M2 0 0 0, ?_, ?_, n, N, R, B, V, W, C, T1⟩
    · unfold p_ES_bar; rw [bnd_e (e_isCol W C), if_neg ca, if_pos rfl]
    · unfold p_Md_bar; rw [nm_s, bnd_e (e_mdCol W T1), if_neg ca, if_pos rfl]
