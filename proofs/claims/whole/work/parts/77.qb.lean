/-! the choices of a column: a sorted list without repeats -/
def srt (f : Nat → Int32) (len : Nat) : Prop := ∀ j k, j < k → k < len → (f j).toInt < (f k).toInt
def mbr (f : Nat → Int32) (len : Nat) (u : Int32) : Prop := ∃ k, k < len ∧ f k = u
def XC (c : Nat) (M M' : Mem) : Prop := M'.2 = M.2 ∧ (∀ k, k ≠ 27 + c → k ≠ 33 → M'.1 k = M.1 k) ∧ ∀ j, j ≠ c → M'.1 33 j = M.1 33 j
theorem XC.rf {c : Nat} {M : Mem} : XC c M M := ⟨rfl, fun _ _ _ => rfl, fun _ _ => rfl⟩
theorem XC.tr {c : Nat} {M M' M'' : Mem} (h : XC c M M') (h' : XC c M' M'') : XC c M M'' := ⟨h'.1.trans h.1, fun k a b => (h'.2.1 k a b).trans (h.2.1 k a b), fun j hj => (h'.2.2 j hj).trans (h.2.2 j hj)⟩
theorem al27 : ∀ c, c < 6 → alenC (27 + c) = 6 := by decide
section PS
variable {n N R B : Nat} {V : Vw} {M : Mem}
theorem RC.c {c : Nat} {M' : Mem} (C : RC N R B V M) (hB : B ≤ 5) (h : XC c M M') : RC N R B V M' := C.of hB (fun k hk => h.2.1 k (by omega) (by omega)) (by rw [h.2.1 24 (by omega) (by omega)])
theorem e_ins {c p len : Nat} (hc : c < 6) (hp : p ≤ len) (hl : len < 6) : ∃ M', itr zfu (fun s => p_Se_addChoice_L78 (nI c) (nI p) s.1 s.2) (nI len, M) = some (nI p, M') ∧ (M'.2 = M.2 ∧ ∀ k, k ≠ 27 + c → M'.1 k = M.1 k) ∧ (∀ k, k < p → M'.1 (27 + c) k = M.1 (27 + c) k) ∧ ∀ k, p < k → k ≤ len → M'.1 (27 + c) k = M.1 (27 + c) (k - 1) := by
  have hq : ∃ q : Int32 × Mem, itr zfu (fun s => p_Se_addChoice_L78 (nI c) (nI p) s.1 s.2) (nI len, M) = some q ∧ q.1 = nI p ∧ (q.2.2 = M.2 ∧ ∀ k, k ≠ 27 + c → q.2.1 k = M.1 k) ∧ (∀ k, k < p → q.2.1 (27 + c) k = M.1 (27 + c) k) ∧ ∀ k, p < k → k ≤ len → q.2.1 (27 + c) k = M.1 (27 + c) (k - 1) := by
    refine itr_run (σ := Int32 × Mem) (ρ := Int32 × Mem) (fun i s => s.1 = nI (len - i) ∧ (s.2.2 = M.2 ∧ ∀ k, k ≠ 27 + c → s.2.1 k = M.1 k) ∧ (∀ k, k < len - i → s.2.1 (27 + c) k = M.1 (27 + c) k) ∧ ∀ k, len - i < k → k ≤ len → s.2.1 (27 + c) k = M.1 (27 + c) (k - 1)) (fun q => q.1 = nI p ∧ (q.2.2 = M.2 ∧ ∀ k, k ≠ 27 + c → q.2.1 k = M.1 k) ∧ (∀ k, k < p → q.2.1 (27 + c) k = M.1 (27 + c) k) ∧ ∀ k, p < k → k ≤ len → q.2.1 (27 + c) k = M.1 (27 + c) (k - 1)) (len - p) (zfu_gt (by omega)) ⟨rfl, ⟨rfl, fun _ _ => rfl⟩, fun _ _ => rfl, fun k h1 h2 => by omega⟩ (fun i s hi hp => ?_) (fun s hp => ?_)
    · obtain ⟨x, M1⟩ := s
      obtain ⟨rfl, hx, h1, h2⟩ := hp
      dsimp only at hx h1 h2
      have k1 : ¬ nI (len - i) ≤ nI p := nI_ge (by omega) (by omega)
      have k0 : nI (len - i) - 1 = nI (len - i - 1) := nI_sub (show 1 ≤ len - i by omega)
      have k2 : inb (nI (len - i - 1)) 6 = true := inb_nI (by omega) (by omega)
      have k3 : inb (nI (len - i)) 6 = true := inb_nI (by omega) (by omega)
      have em : nI (len - i) + (-1 : Int32) = nI (len - (i + 1)) := by
        rw [show len - (i + 1) = len - i - 1 by omega, ← k0, Int32.sub_eq_add_neg]
      refine ⟨.inl (nI (len - (i + 1)), wI M1 (27 + c) (nI (len - i)) (M.1 (27 + c) (len - i - 1))), ?_, rfl, ⟨hx.1, fun k hk => by rw [wI_ne hk]; exact hx.2 k hk⟩, fun k hk => ?_, fun k hk hk2 => ?_⟩
      · simp only [p_Se_addChoice_L78, k1, k0, nI_clamp (show c < 2 ^ 31 by omega), al27 c hc, k2, k3, chk_true, nm_s, nI_clamp (show len - i - 1 < 2 ^ 31 by omega), h1 (len - i - 1) (by omega), em, ↓reduceIte]
      · dsimp only
        rw [wI_at (by omega), if_neg (by omega)]; exact h1 k (by omega)
      · dsimp only
        rw [wI_at (by omega)]
        by_cases e : k = len - i
        · rw [if_pos e, e]
        · rw [if_neg e]; exact h2 k (by omega) hk2
    · obtain ⟨x, M1⟩ := s
      obtain ⟨rfl, hx, h1, h2⟩ := hp
      dsimp only at hx h1 h2
      have e : len - (len - p) = p := by omega
      rw [e] at h1 h2
      have k1 : nI p ≤ nI p := nI_le (by omega) (by omega)
      exact ⟨(nI p, M1), by simp only [p_Se_addChoice_L78, e, k1, ↓reduceIte], rfl, hx, h1, h2⟩
  obtain ⟨⟨q, M1⟩, h1, rfl, h2, h3, h4⟩ := hq
  exact ⟨M1, h1, h2, h3, h4⟩
theorem e_addChoice {c len : Nat} {v : Int32} (hc : c < 6) (hl : len < 6) (h33 : M.1 33 c = nI len) (hs : srt (M.1 (27 + c)) len) : ∃ M' len', p_Se_addChoice (nI c) v M = some M' ∧ XC c M M' ∧ M'.1 33 c = nI len' ∧ len' ≤ len + 1 ∧ 1 ≤ len' ∧ srt (M'.1 (27 + c)) len' ∧ ∀ u, mbr (M'.1 (27 + c)) len' u ↔ mbr (M.1 (27 + c)) len u ∨ u = v := by
  have kc := nI_clamp (show c < 2 ^ 31 by omega)
  have ic : inb (nI c) 6 = true := inb_nI hc (by omega)
  have al := al27 c hc
  have hq : ∃ q : Int32, itr zfu (fun s => p_Se_addChoice_L18 (nI c) v M s) ((0 : Int32)) = some q ∧ ∃ p, p ≤ len ∧ q = nI p ∧ (∀ j, j < p → ¬ v ≤ M.1 (27 + c) j) ∧ (p < len → v ≤ M.1 (27 + c) p) := by
    refine itr_run (σ := Int32) (ρ := Int32) (fun i s => s = nI i ∧ ∀ j, j < i → ¬ v ≤ M.1 (27 + c) j) (fun q => ∃ p, p ≤ len ∧ q = nI p ∧ (∀ j, j < p → ¬ v ≤ M.1 (27 + c) j) ∧ (p < len → v ≤ M.1 (27 + c) p)) len (zfu_gt (by omega)) ⟨rfl, fun j hj => by omega⟩ (fun i s hi hp => ?_) (fun s hp => ?_)
    · obtain ⟨rfl, hk⟩ := hp
      have k1 : ¬ nI len ≤ nI i := nI_ge (by omega) (by omega)
      have k2 : inb (nI i) 6 = true := inb_nI (by omega) (by omega)
      by_cases e : v ≤ M.1 (27 + c) i
      · refine ⟨.inr (nI i), ?_, i, by omega, rfl, hk, fun _ => e⟩
        simp only [p_Se_addChoice_L18, kc, h33, k1, al, k2, chk_true, nI_clamp (show i < 2 ^ 31 by omega), e, ↓reduceIte]
      · refine ⟨.inl (nI (i + 1)), ?_, rfl, fun j hj => ?_⟩
        · simp only [p_Se_addChoice_L18, kc, h33, k1, al, k2, chk_true, nI_clamp (show i < 2 ^ 31 by omega), e, nI_1, ↓reduceIte]
        · by_cases q : j = i
          · rw [q]; exact e
          · exact hk j (by omega)
    · obtain ⟨rfl, hk⟩ := hp
      have k1 : nI len ≤ nI len := nI_le (by omega) (by omega)
      exact ⟨nI len, by simp only [p_Se_addChoice_L18, kc, h33, k1, ↓reduceIte], len, by omega, rfl, hk, fun h => by omega⟩
  obtain ⟨q, h1, p, hp, rfl, hlt, hge⟩ := hq
  have hlt' : ∀ j, j < p → (M.1 (27 + c) j).toInt < v.toInt := fun j hj => by have := hlt j hj; rw [Int32.le_iff_toInt_le] at this; omega
  have kp := nI_clamp (show p < 2 ^ 31 by omega)
  by_cases c1 : p < len ∧ M.1 (27 + c) p = v
  · refine ⟨M, len, ?_, XC.rf, h33, by omega, by omega, hs, fun u => ⟨Or.inl, fun h => ?_⟩⟩
    · have k1 : ¬ nI len ≤ nI p := nI_ge (by omega) (by omega)
      have k2 : inb (nI p) 6 = true := inb_nI (by omega) (by omega)
      unfold p_Se_addChoice
      rw [chk_t ic, chk_t ic, bnd_e h1, kc, h33, if_neg k1, al, chk_t k2, kp, if_pos c1.2]
    · rcases h with h | h
      · exact h
      · exact ⟨p, c1.1, by rw [h]; exact c1.2⟩
  · obtain ⟨M1, g1, g2, g3, g4⟩ := e_ins (M := M) hc hp hl
    have k2 : inb (nI p) 6 = true := inb_nI (by omega) (by omega)
    have hgt : ∀ k, p ≤ k → k < len → v.toInt < (M.1 (27 + c) k).toInt := fun k a b => by
      have h2 : v.toInt < (M.1 (27 + c) p).toInt := by
        have h3 := hge (by omega)
        rw [Int32.le_iff_toInt_le] at h3
        have h4 : ¬ (M.1 (27 + c) p).toInt = v.toInt := fun q => c1 ⟨by omega, Int32.toInt_inj.mp q⟩
        omega
      by_cases e : p = k
      · rw [← e]; exact h2
      · have := hs p k (by omega) b; omega
    have a33 : ∀ j, (wI (wI M1 (27 + c) (nI p) v) 33 (nI c) (nI (len + 1))).1 33 j = if j = c then nI (len + 1) else M.1 33 j := fun j => by
      rw [wI_at (by omega), wI_ne (by omega : 33 ≠ 27 + c), g2.2 33 (by omega)]
    have a27 : ∀ k, (wI (wI M1 (27 + c) (nI p) v) 33 (nI c) (nI (len + 1))).1 (27 + c) k = if k = p then v else M1.1 (27 + c) k := fun k => by
      rw [wI_ne (by omega : 27 + c ≠ 33), wI_at (by omega)]
    have val : ∀ k, k < len + 1 → (wI (wI M1 (27 + c) (nI p) v) 33 (nI c) (nI (len + 1))).1 (27 + c) k = if k < p then M.1 (27 + c) k else if k = p then v else M.1 (27 + c) (k - 1) := fun k hk => by
      rw [a27]
      by_cases e : k = p
      · rw [if_pos e, if_neg (by omega), if_pos e]
      · rw [if_neg e]
        by_cases e2 : k < p
        · rw [if_pos e2]; exact g3 k e2
        · rw [if_neg e2, if_neg e]; exact g4 k (by omega) (by omega)
    refine ⟨wI (wI M1 (27 + c) (nI p) v) 33 (nI c) (nI (len + 1)), len + 1, ?_, ⟨g2.1, fun k a b => by rw [wI_ne b, wI_ne a]; exact g2.2 k a, fun j hj => by rw [a33, if_neg hj]⟩, by rw [a33, if_pos rfl], Nat.le_refl _, by omega, ?_, ?_⟩
    · have k5 : nI len < nI 6 := nI_lt (by omega) (by omega)
      have k6 : decide (0 < 6) = true := rfl
      unfold p_Se_addChoice
      rw [chk_t ic, chk_t ic, bnd_e h1, kc, h33]
      by_cases e : p < len
      · rw [if_neg (nI_ge e (by omega)), al, chk_t k2, kp, if_neg (fun q => c1 ⟨e, q⟩), chk_t k6, if_pos k5, bnd_e g1, chk_t k2, nm_s, chk_t ic, nm_s, nI_1]
      · rw [if_pos (nI_le (by omega) (by omega)), al, chk_t k6, if_pos k5, bnd_e g1, chk_t k2, nm_s, chk_t ic, nm_s, nI_1]
    · intro j k hjk hk
      rw [val j (by omega), val k hk]
      by_cases e1 : k < p
      · rw [if_pos e1, if_pos (by omega)]; exact hs j k hjk (by omega)
      · rw [if_neg e1]
        by_cases e2 : k = p
        · rw [if_pos e2, if_pos (by omega)]; exact hlt' j (by omega)
        · rw [if_neg e2]
          by_cases e3 : j < p
          · rw [if_pos e3]
            have := hlt' j e3
            have := hgt (k - 1) (by omega) (by omega)
            omega
          · rw [if_neg e3]
            by_cases e4 : j = p
            · rw [if_pos e4]; exact hgt (k - 1) (by omega) (by omega)
            · rw [if_neg e4]; exact hs (j - 1) (k - 1) (by omega) (by omega)
    · intro u
      refine ⟨fun ⟨k, hk, h⟩ => ?_, fun h => ?_⟩
      · rw [val k hk] at h
        by_cases e1 : k < p
        · rw [if_pos e1] at h; exact Or.inl ⟨k, by omega, h⟩
        · rw [if_neg e1] at h
          by_cases e2 : k = p
          · rw [if_pos e2] at h; exact Or.inr h.symm
          · rw [if_neg e2] at h; exact Or.inl ⟨k - 1, by omega, h⟩
      · rcases h with ⟨k, hk, h⟩ | h
        · by_cases e1 : k < p
          · exact ⟨k, by omega, by rw [val k (by omega), if_pos e1]; exact h⟩
          · exact ⟨k + 1, by omega, by rw [val (k + 1) (by omega), if_neg (by omega), if_neg (by omega), Nat.add_sub_cancel]; exact h⟩
        · exact ⟨p, by omega, by rw [val p (by omega), if_neg (by omega), if_pos rfl, h]⟩
/-- a column's list is good -/
def Lst (B : Nat) (V : Vw) (M : Mem) (c : Nat) : Prop := ∃ len, 1 ≤ len ∧ len ≤ 6 ∧ M.1 33 c = nI len ∧ srt (M.1 (27 + c)) len ∧ ∀ u, mbr (M.1 (27 + c)) len u ↔ ch B V c u
theorem e_gather (W : WF n N R B V) (C : RC N R B V M) {c : Nat} (hc : c < 6) : ∃ M', p_Se_gatherChoices (nI c) M = some M' ∧ XC c M M' ∧ Lst B V M' c := by
  have hb := W.2.1
  have kc := nI_clamp (show c < 2 ^ 31 by omega)
  have ic : inb (nI c) 6 = true := inb_nI hc (by omega)
  have x0 : XC c M (wI M 33 (nI c) 0) := ⟨rfl, fun k a b => wI_ne b, fun j hj => by rw [wI_at (by omega), if_neg hj]⟩
  have C0 := C.c hb.2.2.2.2 x0
  have z33 : (wI M 33 (nI c) 0).1 33 c = nI 0 := by rw [wI_at (by omega), if_pos rfl]; rfl
  obtain ⟨M1, l1, e1, x1, a1, b1, c1, s1, m1⟩ := e_addChoice (v := itm V 0 c) hc (show 0 < 6 by omega) z33 (fun j k h1 h2 => by omega)
  have C1 := C0.c hb.2.2.2.2 x1
  have q1 : M1.1 25 c = V 9 c := C1.2.2.2.2.2.2.2 c hc
  have m1' : ∀ u, mbr (M1.1 (27 + c)) l1 u ↔ u = itm V 0 c := fun u => by
    rw [m1 u]
    exact ⟨fun h => h.elim (fun ⟨k, hk, _⟩ => by omega) id, Or.inr⟩
  have pre : ∀ k, k = p_Se_gatherChoices (nI c) M → k = (if M1.1 25 c = 0 then bnd (itr zfu (fun s => p_Se_gatherChoices_L34 (nI c) s.1 s.2) ((0 : Int32), M1)) (fun q8 => some q8.2) else some M1) := fun k hk => by
    rw [hk]
    unfold p_Se_gatherChoices
    rw [chk_t ic, nm_s, bnd_e e_at0, chk_t (show inb (nI c) (alenC 10) = true from ic), kc, row0 C0 c hc, bnd_e e1, chk_t ic]
  by_cases e : V 9 c = 0
  · have hq : ∃ q : Int32 × Mem, itr zfu (fun s => p_Se_gatherChoices_L34 (nI c) s.1 s.2) ((0 : Int32), M1) = some q ∧ XC c M q.2 ∧ Lst B V q.2 c := by
      refine itr_run (σ := Int32 × Mem) (ρ := Int32 × Mem) (fun i s => s.1 = nI i ∧ XC c M s.2 ∧ ∃ len, 1 ≤ len ∧ len ≤ i + 1 ∧ s.2.1 33 c = nI len ∧ srt (s.2.1 (27 + c)) len ∧ ∀ u, mbr (s.2.1 (27 + c)) len u ↔ u = itm V 0 c ∨ ∃ r, r < i ∧ u = itm V (r + 1) c) (fun q => XC c M q.2 ∧ Lst B V q.2 c) B (zfu_gt (by omega)) ⟨rfl, x0.tr x1, l1, c1, b1, a1, s1, fun u => ?_⟩ (fun i s hi hp => ?_) (fun s hp => ?_)
      · rw [m1' u]
        exact ⟨Or.inl, fun h => h.elim id (fun ⟨r, hr, _⟩ => by omega)⟩
      · obtain ⟨x, M2⟩ := s
        obtain ⟨rfl, hx, len, l0, l2, h33, hs, hm⟩ := hp
        dsimp only at hx h33 hs hm
        have C2 := C.c hb.2.2.2.2 hx
        have k0 : M2.1 9 2 = nI B := C2.1.2.2.2.2.2.trans W.1.2.2.2
        have k1 : ¬ nI B ≤ nI i := nI_ge (by omega) (by omega)
        obtain ⟨M3, l3, e3, x3, a3, b3, c3, s3, m3⟩ := e_addChoice (v := itm V (i + 1) c) hc (show len < 6 by omega) h33 hs
        have k5 : inb (nI c) (alenC (12 + i)) = true := by rw [al12 (by omega)]; exact ic
        refine ⟨.inl (nI (i + 1), M3), ?_, rfl, hx.tr x3, l3, c3, by omega, a3, s3, fun u => ?_⟩
        · simp only [p_Se_gatherChoices_L34, p_Rw_count, bnd_s, k0, k1, bnd_e (e_at (M := M2) (show i < 5 by omega)), k5, chk_true, kc, rowC C2 hi c hc, bnd_e e3, nI_1, ↓reduceIte]
        · rw [m3 u, hm u]
          refine ⟨fun h => ?_, fun h => ?_⟩
          · rcases h with (h | ⟨r, hr, h⟩) | h
            · exact Or.inl h
            · exact Or.inr ⟨r, by omega, h⟩
            · exact Or.inr ⟨i, by omega, h⟩
          · rcases h with h | ⟨r, hr, h⟩
            · exact Or.inl (Or.inl h)
            · by_cases q : r = i
              · rw [q] at h; exact Or.inr h
              · exact Or.inl (Or.inr ⟨r, by omega, h⟩)
      · obtain ⟨x, M2⟩ := s
        obtain ⟨rfl, hx, len, l0, l2, h33, hs, hm⟩ := hp
        dsimp only at hx h33 hs hm
        have C2 := C.c hb.2.2.2.2 hx
        have k0 : M2.1 9 2 = nI B := C2.1.2.2.2.2.2.trans W.1.2.2.2
        have k1 : nI B ≤ nI B := nI_le (by omega) (by omega)
        refine ⟨(nI B, M2), by simp only [p_Se_gatherChoices_L34, p_Rw_count, bnd_s, k0, k1, ↓reduceIte], hx, len, l0, by omega, h33, hs, fun u => ?_⟩
        rw [hm u]
        unfold ch
        exact ⟨fun h => h.imp id (fun h => ⟨e, h⟩), fun h => h.imp id (fun h => h.2)⟩
    obtain ⟨q, h1, h2, h3⟩ := hq
    refine ⟨q.2, ?_, h2, h3⟩
    rw [pre _ rfl, q1, if_pos e, bnd_e h1]
  · refine ⟨M1, ?_, x0.tr x1, l1, c1, by omega, a1, s1, fun u => ?_⟩
    · rw [pre _ rfl, q1, if_neg e]
    · rw [m1' u]
      unfold ch
      exact ⟨Or.inl, fun h => h.elim id (fun h => absurd h.1 e)⟩
def opn (M : Mem) (c : Nat) : Prop := ∃ len, 1 ≤ len ∧ len ≤ 6 ∧ M.1 33 c = nI len ∧ M.1 34 c = M.1 (27 + c) 0 ∧ M.1 35 c = M.1 (27 + c) (len - 1)
theorem e_open {c len : Nat} (hc : c < 6) (l1 : 1 ≤ len) (l2 : len ≤ 6) (h33 : M.1 33 c = nI len) : p_Se_open (nI c) M = some (wI (wI M 34 (nI c) (M.1 (27 + c) 0)) 35 (nI c) (M.1 (27 + c) (len - 1))) := by
  have kc := nI_clamp (show c < 2 ^ 31 by omega)
  have ic : inb (nI c) 6 = true := inb_nI hc (by omega)
  have al := al27 c hc
  have i0 : inb (0 : Int32) 6 = true := by decide
  have c0 : Int32.toNatClampNeg (0 : Int32) = 0 := by decide
  have k0 : nI len - 1 = nI (len - 1) := nI_sub l1
  have k2 : inb (nI (len - 1)) 6 = true := inb_nI (by omega) (by omega)
  have w33 : ∀ v, (wI M 34 (nI c) v).1 33 c = nI len := fun v => by rw [wI_ne (by omega : 33 ≠ 34)]; exact h33
  have w27 : ∀ v, (wI M 34 (nI c) v).1 (27 + c) = M.1 (27 + c) := fun v => wI_ne (by omega : 27 + c ≠ 34)
  unfold p_Se_open
  rw [kc, al, chk_t ic, chk_t i0, chk_t ic, nm_s, chk_t ic, chk_t ic, c0, w33, w27, k0, chk_t k2, chk_t ic, nm_s, nI_clamp (by omega)]
end PS
