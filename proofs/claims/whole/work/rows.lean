section
-- ===== PART A: goes FIRST, ahead of the names: the tables' words, and 'selects' of the private methods out of them =====
/-- a private method of a class that the tables say can be made, by its rows of tables_1 -/
def lw_okq (q : MethodName × Nat) : Prop := (q.1.cls ≠ "java/lang/invoke/MethodHandle" ∧ q.1.cls ≠ "java/lang/invoke/VarHandle") ∧ Cond.instantiable q.1.cls q.2 ∈ tables_1 ∧ Cond.privateMethod q.1 ∈ tables_1 ∧ Cond.instanceMethod q.1 ∈ tables_1
theorem lw_p0 : lw_okq (⟨"ExactShares2$Learner", "addNode", "(IIII)I"⟩, 9) := ⟨⟨by decide +kernel, by decide +kernel⟩, List.mem_of_getElem? (i := 30) (by decide +kernel), List.mem_of_getElem? (i := 218) (by decide +kernel), List.mem_of_getElem? (i := 219) (by decide +kernel)⟩
theorem lw_p1 : lw_okq (⟨"ExactShares2", "isColumn", "(I)Z"⟩, 6) := ⟨⟨by decide +kernel, by decide +kernel⟩, List.mem_of_getElem? (i := 16) (by decide +kernel), List.mem_of_getElem? (i := 226) (by decide +kernel), List.mem_of_getElem? (i := 227) (by decide +kernel)⟩
theorem lw_p2 : lw_okq (⟨"ExactShares2$Learner", "givenBy", "(I[I)I"⟩, 9) := ⟨⟨by decide +kernel, by decide +kernel⟩, List.mem_of_getElem? (i := 30) (by decide +kernel), List.mem_of_getElem? (i := 311) (by decide +kernel), List.mem_of_getElem? (i := 312) (by decide +kernel)⟩
theorem lw_p3 : lw_okq (⟨"ExactShares2$Means", "brought", "(II)J"⟩, 6) := ⟨⟨by decide +kernel, by decide +kernel⟩, List.mem_of_getElem? (i := 100) (by decide +kernel), List.mem_of_getElem? (i := 357) (by decide +kernel), List.mem_of_getElem? (i := 358) (by decide +kernel)⟩
theorem lw_p4 : lw_okq (⟨"ExactShares2$Means", "mix", "(I[I[I)V"⟩, 6) := ⟨⟨by decide +kernel, by decide +kernel⟩, List.mem_of_getElem? (i := 100) (by decide +kernel), List.mem_of_getElem? (i := 367) (by decide +kernel), List.mem_of_getElem? (i := 368) (by decide +kernel)⟩
theorem lw_p5 : lw_okq (⟨"ExactShares2$Means", "countAhead", "(II)I"⟩, 6) := ⟨⟨by decide +kernel, by decide +kernel⟩, List.mem_of_getElem? (i := 100) (by decide +kernel), List.mem_of_getElem? (i := 379) (by decide +kernel), List.mem_of_getElem? (i := 380) (by decide +kernel)⟩
theorem lw_p6 : lw_okq (⟨"ExactShares2$Search", "gatherChoices", "(I)V"⟩, 11) := ⟨⟨by decide +kernel, by decide +kernel⟩, List.mem_of_getElem? (i := 145) (by decide +kernel), List.mem_of_getElem? (i := 399) (by decide +kernel), List.mem_of_getElem? (i := 400) (by decide +kernel)⟩
theorem lw_p7 : lw_okq (⟨"ExactShares2$Search", "addChoice", "(II)V"⟩, 11) := ⟨⟨by decide +kernel, by decide +kernel⟩, List.mem_of_getElem? (i := 145) (by decide +kernel), List.mem_of_getElem? (i := 404) (by decide +kernel), List.mem_of_getElem? (i := 405) (by decide +kernel)⟩
theorem lw_p8 : lw_okq (⟨"ExactShares2$Search", "open", "(I)V"⟩, 11) := ⟨⟨by decide +kernel, by decide +kernel⟩, List.mem_of_getElem? (i := 145) (by decide +kernel), List.mem_of_getElem? (i := 409) (by decide +kernel), List.mem_of_getElem? (i := 410) (by decide +kernel)⟩
theorem lw_p9 : lw_okq (⟨"ExactShares2$Search", "visit", "(II)V"⟩, 11) := ⟨⟨by decide +kernel, by decide +kernel⟩, List.mem_of_getElem? (i := 145) (by decide +kernel), List.mem_of_getElem? (i := 413) (by decide +kernel), List.mem_of_getElem? (i := 414) (by decide +kernel)⟩
theorem lw_p10 : lw_okq (⟨"ExactShares2$Learner", "peakOf", "(I[I[I)I"⟩, 9) := ⟨⟨by decide +kernel, by decide +kernel⟩, List.mem_of_getElem? (i := 30) (by decide +kernel), List.mem_of_getElem? (i := 421) (by decide +kernel), List.mem_of_getElem? (i := 422) (by decide +kernel)⟩
theorem lw_p11 : lw_okq (⟨"ExactShares2$Search", "settle", "(II)V"⟩, 11) := ⟨⟨by decide +kernel, by decide +kernel⟩, List.mem_of_getElem? (i := 145) (by decide +kernel), List.mem_of_getElem? (i := 426) (by decide +kernel), List.mem_of_getElem? (i := 427) (by decide +kernel)⟩
theorem lw_p12 : lw_okq (⟨"ExactShares2$Search", "costOf", "(II)I"⟩, 11) := ⟨⟨by decide +kernel, by decide +kernel⟩, List.mem_of_getElem? (i := 145) (by decide +kernel), List.mem_of_getElem? (i := 430) (by decide +kernel), List.mem_of_getElem? (i := 431) (by decide +kernel)⟩
theorem lw_p13 : lw_okq (⟨"ExactShares2$Search", "keep", "(I)V"⟩, 11) := ⟨⟨by decide +kernel, by decide +kernel⟩, List.mem_of_getElem? (i := 145) (by decide +kernel), List.mem_of_getElem? (i := 437) (by decide +kernel), List.mem_of_getElem? (i := 438) (by decide +kernel)⟩
theorem lw_p14 : lw_okq (⟨"java/lang/Throwable", "fillInStackTrace", "(I)Ljava/lang/Throwable;"⟩, 6) := ⟨⟨by decide +kernel, by decide +kernel⟩, List.mem_of_getElem? (i := 507) (by decide +kernel), List.mem_of_getElem? (i := 505) (by decide +kernel), List.mem_of_getElem? (i := 506) (by decide +kernel)⟩
theorem lw_p15 : lw_okq (⟨"ExactShares2$Orders", "lineUp", "()V"⟩, 4) := ⟨⟨by decide +kernel, by decide +kernel⟩, List.mem_of_getElem? (i := 106) (by decide +kernel), List.mem_of_getElem? (i := 595) (by decide +kernel), List.mem_of_getElem? (i := 596) (by decide +kernel)⟩
def lw_privs_1 : List (MethodName × Nat) := [(⟨"ExactShares2$Learner", "addNode", "(IIII)I"⟩, 9), (⟨"ExactShares2", "isColumn", "(I)Z"⟩, 6), (⟨"ExactShares2$Learner", "givenBy", "(I[I)I"⟩, 9), (⟨"ExactShares2$Means", "brought", "(II)J"⟩, 6), (⟨"ExactShares2$Means", "mix", "(I[I[I)V"⟩, 6), (⟨"ExactShares2$Means", "countAhead", "(II)I"⟩, 6), (⟨"ExactShares2$Search", "gatherChoices", "(I)V"⟩, 11), (⟨"ExactShares2$Search", "addChoice", "(II)V"⟩, 11), (⟨"ExactShares2$Search", "open", "(I)V"⟩, 11), (⟨"ExactShares2$Search", "visit", "(II)V"⟩, 11), (⟨"ExactShares2$Learner", "peakOf", "(I[I[I)I"⟩, 9), (⟨"ExactShares2$Search", "settle", "(II)V"⟩, 11), (⟨"ExactShares2$Search", "costOf", "(II)I"⟩, 11), (⟨"ExactShares2$Search", "keep", "(I)V"⟩, 11), (⟨"java/lang/Throwable", "fillInStackTrace", "(I)Ljava/lang/Throwable;"⟩, 6), (⟨"ExactShares2$Orders", "lineUp", "()V"⟩, 4)]
theorem lw_r1 : ∀ q ∈ lw_privs_1, lw_okq q := List.forall_mem_cons.mpr ⟨lw_p0, List.forall_mem_cons.mpr ⟨lw_p1, List.forall_mem_cons.mpr ⟨lw_p2, List.forall_mem_cons.mpr ⟨lw_p3, List.forall_mem_cons.mpr ⟨lw_p4, List.forall_mem_cons.mpr ⟨lw_p5, List.forall_mem_cons.mpr ⟨lw_p6, List.forall_mem_cons.mpr ⟨lw_p7, List.forall_mem_cons.mpr ⟨lw_p8, List.forall_mem_cons.mpr ⟨lw_p9, List.forall_mem_cons.mpr ⟨lw_p10, List.forall_mem_cons.mpr ⟨lw_p11, List.forall_mem_cons.mpr ⟨lw_p12, List.forall_mem_cons.mpr ⟨lw_p13, List.forall_mem_cons.mpr ⟨lw_p14, List.forall_mem_cons.mpr ⟨lw_p15, fun _ h => absurd h List.not_mem_nil⟩⟩⟩⟩⟩⟩⟩⟩⟩⟩⟩⟩⟩⟩⟩⟩
theorem lw_p16 : lw_okq (⟨"ExactShares2$Orders", "below", "(I)I"⟩, 4) := ⟨⟨by decide +kernel, by decide +kernel⟩, List.mem_of_getElem? (i := 106) (by decide +kernel), List.mem_of_getElem? (i := 600) (by decide +kernel), List.mem_of_getElem? (i := 601) (by decide +kernel)⟩
theorem lw_p17 : lw_okq (⟨"ExactShares2$Means", "sumWith", "([III)J"⟩, 6) := ⟨⟨by decide +kernel, by decide +kernel⟩, List.mem_of_getElem? (i := 100) (by decide +kernel), List.mem_of_getElem? (i := 620) (by decide +kernel), List.mem_of_getElem? (i := 621) (by decide +kernel)⟩
theorem lw_p18 : lw_okq (⟨"ExactShares2Model", "isColumn", "(I)Z"⟩, 25) := ⟨⟨by decide +kernel, by decide +kernel⟩, List.mem_of_getElem? (i := 635) (by decide +kernel), List.mem_of_getElem? (i := 736) (by decide +kernel), List.mem_of_getElem? (i := 737) (by decide +kernel)⟩
theorem lw_p19 : lw_okq (⟨"ExactShares2Model", "take", "(I)V"⟩, 25) := ⟨⟨by decide +kernel, by decide +kernel⟩, List.mem_of_getElem? (i := 635) (by decide +kernel), List.mem_of_getElem? (i := 766) (by decide +kernel), List.mem_of_getElem? (i := 767) (by decide +kernel)⟩
theorem lw_p20 : lw_okq (⟨"ExactShares2Model", "answerNow", "()J"⟩, 25) := ⟨⟨by decide +kernel, by decide +kernel⟩, List.mem_of_getElem? (i := 635) (by decide +kernel), List.mem_of_getElem? (i := 770) (by decide +kernel), List.mem_of_getElem? (i := 771) (by decide +kernel)⟩
theorem lw_p21 : lw_okq (⟨"ExactShares2Model", "throwsNow", "()Z"⟩, 25) := ⟨⟨by decide +kernel, by decide +kernel⟩, List.mem_of_getElem? (i := 635) (by decide +kernel), List.mem_of_getElem? (i := 778) (by decide +kernel), List.mem_of_getElem? (i := 779) (by decide +kernel)⟩
theorem lw_p22 : lw_okq (⟨"ExactShares2Model", "sumAll", "()V"⟩, 25) := ⟨⟨by decide +kernel, by decide +kernel⟩, List.mem_of_getElem? (i := 635) (by decide +kernel), List.mem_of_getElem? (i := 782) (by decide +kernel), List.mem_of_getElem? (i := 783) (by decide +kernel)⟩
theorem lw_p23 : lw_okq (⟨"ExactShares2Model", "groupBits", "(I)I"⟩, 25) := ⟨⟨by decide +kernel, by decide +kernel⟩, List.mem_of_getElem? (i := 635) (by decide +kernel), List.mem_of_getElem? (i := 793) (by decide +kernel), List.mem_of_getElem? (i := 794) (by decide +kernel)⟩
theorem lw_p24 : lw_okq (⟨"ExactShares2Model", "shareSum", "(I)J"⟩, 25) := ⟨⟨by decide +kernel, by decide +kernel⟩, List.mem_of_getElem? (i := 635) (by decide +kernel), List.mem_of_getElem? (i := 797) (by decide +kernel), List.mem_of_getElem? (i := 798) (by decide +kernel)⟩
theorem lw_p25 : lw_okq (⟨"ExactShares2Model", "listParts", "(II)V"⟩, 25) := ⟨⟨by decide +kernel, by decide +kernel⟩, List.mem_of_getElem? (i := 635) (by decide +kernel), List.mem_of_getElem? (i := 801) (by decide +kernel), List.mem_of_getElem? (i := 802) (by decide +kernel)⟩
theorem lw_p26 : lw_okq (⟨"ExactShares2Model", "orders", "()I"⟩, 25) := ⟨⟨by decide +kernel, by decide +kernel⟩, List.mem_of_getElem? (i := 635) (by decide +kernel), List.mem_of_getElem? (i := 805) (by decide +kernel), List.mem_of_getElem? (i := 806) (by decide +kernel)⟩
theorem lw_p27 : lw_okq (⟨"ExactShares2Model", "layOrder", "(I)V"⟩, 25) := ⟨⟨by decide +kernel, by decide +kernel⟩, List.mem_of_getElem? (i := 635) (by decide +kernel), List.mem_of_getElem? (i := 809) (by decide +kernel), List.mem_of_getElem? (i := 810) (by decide +kernel)⟩
theorem lw_p28 : lw_okq (⟨"ExactShares2Model", "before", "(I)I"⟩, 25) := ⟨⟨by decide +kernel, by decide +kernel⟩, List.mem_of_getElem? (i := 635) (by decide +kernel), List.mem_of_getElem? (i := 813) (by decide +kernel), List.mem_of_getElem? (i := 814) (by decide +kernel)⟩
theorem lw_p29 : lw_okq (⟨"ExactShares2Model", "setSum", "(I)J"⟩, 25) := ⟨⟨by decide +kernel, by decide +kernel⟩, List.mem_of_getElem? (i := 635) (by decide +kernel), List.mem_of_getElem? (i := 817) (by decide +kernel), List.mem_of_getElem? (i := 818) (by decide +kernel)⟩
theorem lw_p30 : lw_okq (⟨"ExactShares2Model", "findSizes", "()V"⟩, 25) := ⟨⟨by decide +kernel, by decide +kernel⟩, List.mem_of_getElem? (i := 635) (by decide +kernel), List.mem_of_getElem? (i := 842) (by decide +kernel), List.mem_of_getElem? (i := 843) (by decide +kernel)⟩
theorem lw_p31 : lw_okq (⟨"ExactShares2Model", "findNearest", "(I)Z"⟩, 25) := ⟨⟨by decide +kernel, by decide +kernel⟩, List.mem_of_getElem? (i := 635) (by decide +kernel), List.mem_of_getElem? (i := 854) (by decide +kernel), List.mem_of_getElem? (i := 855) (by decide +kernel)⟩
def lw_privs_2 : List (MethodName × Nat) := [(⟨"ExactShares2$Orders", "below", "(I)I"⟩, 4), (⟨"ExactShares2$Means", "sumWith", "([III)J"⟩, 6), (⟨"ExactShares2Model", "isColumn", "(I)Z"⟩, 25), (⟨"ExactShares2Model", "take", "(I)V"⟩, 25), (⟨"ExactShares2Model", "answerNow", "()J"⟩, 25), (⟨"ExactShares2Model", "throwsNow", "()Z"⟩, 25), (⟨"ExactShares2Model", "sumAll", "()V"⟩, 25), (⟨"ExactShares2Model", "groupBits", "(I)I"⟩, 25), (⟨"ExactShares2Model", "shareSum", "(I)J"⟩, 25), (⟨"ExactShares2Model", "listParts", "(II)V"⟩, 25), (⟨"ExactShares2Model", "orders", "()I"⟩, 25), (⟨"ExactShares2Model", "layOrder", "(I)V"⟩, 25), (⟨"ExactShares2Model", "before", "(I)I"⟩, 25), (⟨"ExactShares2Model", "setSum", "(I)J"⟩, 25), (⟨"ExactShares2Model", "findSizes", "()V"⟩, 25), (⟨"ExactShares2Model", "findNearest", "(I)Z"⟩, 25)]
theorem lw_r2 : ∀ q ∈ lw_privs_2, lw_okq q := List.forall_mem_cons.mpr ⟨lw_p16, List.forall_mem_cons.mpr ⟨lw_p17, List.forall_mem_cons.mpr ⟨lw_p18, List.forall_mem_cons.mpr ⟨lw_p19, List.forall_mem_cons.mpr ⟨lw_p20, List.forall_mem_cons.mpr ⟨lw_p21, List.forall_mem_cons.mpr ⟨lw_p22, List.forall_mem_cons.mpr ⟨lw_p23, List.forall_mem_cons.mpr ⟨lw_p24, List.forall_mem_cons.mpr ⟨lw_p25, List.forall_mem_cons.mpr ⟨lw_p26, List.forall_mem_cons.mpr ⟨lw_p27, List.forall_mem_cons.mpr ⟨lw_p28, List.forall_mem_cons.mpr ⟨lw_p29, List.forall_mem_cons.mpr ⟨lw_p30, List.forall_mem_cons.mpr ⟨lw_p31, fun _ h => absurd h List.not_mem_nil⟩⟩⟩⟩⟩⟩⟩⟩⟩⟩⟩⟩⟩⟩⟩⟩
theorem lw_p32 : lw_okq (⟨"ExactShares2Model", "hold", "(Z)V"⟩, 25) := ⟨⟨by decide +kernel, by decide +kernel⟩, List.mem_of_getElem? (i := 635) (by decide +kernel), List.mem_of_getElem? (i := 858) (by decide +kernel), List.mem_of_getElem? (i := 859) (by decide +kernel)⟩
theorem lw_p33 : lw_okq (⟨"ExactShares2Model", "next", "(I)I"⟩, 25) := ⟨⟨by decide +kernel, by decide +kernel⟩, List.mem_of_getElem? (i := 635) (by decide +kernel), List.mem_of_getElem? (i := 862) (by decide +kernel), List.mem_of_getElem? (i := 863) (by decide +kernel)⟩
def lw_privs_3 : List (MethodName × Nat) := [(⟨"ExactShares2Model", "hold", "(Z)V"⟩, 25), (⟨"ExactShares2Model", "next", "(I)I"⟩, 25)]
theorem lw_r3 : ∀ q ∈ lw_privs_3, lw_okq q := List.forall_mem_cons.mpr ⟨lw_p32, List.forall_mem_cons.mpr ⟨lw_p33, fun _ h => absurd h List.not_mem_nil⟩⟩
def lw_privs : List (MethodName × Nat) := lw_privs_1 ++ (lw_privs_2 ++ (lw_privs_3))
def lw_tbl : List Cond := k2_sels lw_privs ++ tables_1
theorem lw_privs_ok : ∀ q ∈ lw_privs, lw_okq q := by
  show ∀ q ∈ lw_privs_1 ++ (lw_privs_2 ++ (lw_privs_3)), lw_okq q
  exact List.forall_mem_append.mpr ⟨lw_r1, List.forall_mem_append.mpr ⟨lw_r2, lw_r3⟩⟩
end
section
/-! names: by my program out of the Statement -/
def R_Ln : String := "ExactShares2$Learner"
def F_Ln : u_T := fun k => match k with
  | 0 => ("ExactShares2$Learner", "columnOf", "[I", true)
  | 1 => ("ExactShares2$Learner", "numberOf", "[I", true)
  | 2 => ("ExactShares2$Learner", "lowOf", "[I", true)
  | 3 => ("ExactShares2$Learner", "highOf", "[I", true)
  | 4 => ("ExactShares2$Learner", "peaks", "[I", true)
  | 5 => ("ExactShares2$Learner", "roots", "[I", true)
  | 6 => ("ExactShares2$Learner", "weights", "[I", true)
  | 7 => ("ExactShares2$Learner", "nodeCount", "I", false)
  | _ => ("ExactShares2$Learner", "rootCount", "I", false)
def t_Ln : Nat → FieldType := fun k => match k with
  | 0 => .array .int
  | 1 => .array .int
  | 2 => .array .int
  | 3 => .array .int
  | 4 => .array .int
  | 5 => .array .int
  | 6 => .array .int
  | 7 => .int
  | _ => .int
theorem n_Ln : ∀ a, a < 9 → ∀ b, b < 9 → a ≠ b → (F_Ln a).2.1 ≠ (F_Ln b).2.1 := by decide +kernel
theorem t_Ln_ok : ∀ k, k < 9 → parseFieldDescriptor (F_Ln k).2.2.1 = some (t_Ln k) := by decide +kernel
def R_Rw : String := "ExactShares2$Rows"
def F_Rw : u_T := fun k => match k with
  | 0 => ("ExactShares2$Rows", "looked", "[I", true)
  | 1 => ("ExactShares2$Rows", "behind", "[[I", true)
  | _ => ("ExactShares2$Rows", "count", "I", false)
def t_Rw : Nat → FieldType := fun k => match k with
  | 0 => .array .int
  | 1 => .array (.array .int)
  | _ => .int
theorem n_Rw : ∀ a, a < 3 → ∀ b, b < 3 → a ≠ b → (F_Rw a).2.1 ≠ (F_Rw b).2.1 := by decide +kernel
theorem t_Rw_ok : ∀ k, k < 3 → parseFieldDescriptor (F_Rw k).2.2.1 = some (t_Rw k) := by decide +kernel
def R_Gr : String := "ExactShares2$Groups"
def F_Gr : u_T := fun k => match k with
  | 0 => ("ExactShares2$Groups", "columns", "I", true)
  | _ => ("ExactShares2$Groups", "groupOf", "[I", true)
def t_Gr : Nat → FieldType := fun k => match k with
  | 0 => .int
  | _ => .array .int
theorem n_Gr : ∀ a, a < 2 → ∀ b, b < 2 → a ≠ b → (F_Gr a).2.1 ≠ (F_Gr b).2.1 := by decide +kernel
theorem t_Gr_ok : ∀ k, k < 2 → parseFieldDescriptor (F_Gr k).2.2.1 = some (t_Gr k) := by decide +kernel
def R_Or : String := "ExactShares2$Orders"
def F_Or : u_T := fun k => match k with
  | 0 => ("ExactShares2$Orders", "groups", "LExactShares2$Groups;", true)
  | 1 => ("ExactShares2$Orders", "order", "[I", true)
  | 2 => ("ExactShares2$Orders", "count", "I", false)
  | _ => ("ExactShares2$Orders", "z", "I", false)
def t_Or : Nat → FieldType := fun k => match k with
  | 0 => .object "ExactShares2$Groups"
  | 1 => .array .int
  | 2 => .int
  | _ => .int
theorem n_Or : ∀ a, a < 4 → ∀ b, b < 4 → a ≠ b → (F_Or a).2.1 ≠ (F_Or b).2.1 := by decide +kernel
theorem t_Or_ok : ∀ k, k < 4 → parseFieldDescriptor (F_Or k).2.2.1 = some (t_Or k) := by decide +kernel
def R_Me : String := "ExactShares2$Means"
def F_Me : u_T := fun k => match k with
  | 0 => ("ExactShares2$Means", "learner", "LExactShares2$Learner;", true)
  | 1 => ("ExactShares2$Means", "rows", "LExactShares2$Rows;", true)
  | 2 => ("ExactShares2$Means", "groups", "LExactShares2$Groups;", true)
  | 3 => ("ExactShares2$Means", "orders", "LExactShares2$Orders;", true)
  | 4 => ("ExactShares2$Means", "mixed", "[I", true)
  | _ => ("ExactShares2$Means", "sizes", "[J", true)
def t_Me : Nat → FieldType := fun k => match k with
  | 0 => .object "ExactShares2$Learner"
  | 1 => .object "ExactShares2$Rows"
  | 2 => .object "ExactShares2$Groups"
  | 3 => .object "ExactShares2$Orders"
  | 4 => .array .int
  | _ => .array .long
theorem n_Me : ∀ a, a < 6 → ∀ b, b < 6 → a ≠ b → (F_Me a).2.1 ≠ (F_Me b).2.1 := by decide +kernel
theorem t_Me_ok : ∀ k, k < 6 → parseFieldDescriptor (F_Me k).2.2.1 = some (t_Me k) := by decide +kernel
def R_Se : String := "ExactShares2$Search"
def F_Se : u_T := fun k => match k with
  | 0 => ("ExactShares2$Search", "columns", "I", true)
  | 1 => ("ExactShares2$Search", "learner", "LExactShares2$Learner;", true)
  | 2 => ("ExactShares2$Search", "rows", "LExactShares2$Rows;", true)
  | 3 => ("ExactShares2$Search", "barred", "[Z", true)
  | 4 => ("ExactShares2$Search", "choices", "[[I", true)
  | 5 => ("ExactShares2$Search", "choiceCounts", "[I", true)
  | 6 => ("ExactShares2$Search", "least", "[I", true)
  | 7 => ("ExactShares2$Search", "most", "[I", true)
  | 8 => ("ExactShares2$Search", "best", "[I", true)
  | 9 => ("ExactShares2$Search", "bestCost", "I", false)
  | _ => ("ExactShares2$Search", "wanted", "I", false)
def t_Se : Nat → FieldType := fun k => match k with
  | 0 => .int
  | 1 => .object "ExactShares2$Learner"
  | 2 => .object "ExactShares2$Rows"
  | 3 => .array .boolean
  | 4 => .array (.array .int)
  | 5 => .array .int
  | 6 => .array .int
  | 7 => .array .int
  | 8 => .array .int
  | 9 => .int
  | _ => .int
theorem n_Se : ∀ a, a < 11 → ∀ b, b < 11 → a ≠ b → (F_Se a).2.1 ≠ (F_Se b).2.1 := by decide +kernel
theorem t_Se_ok : ∀ k, k < 11 → parseFieldDescriptor (F_Se k).2.2.1 = some (t_Se k) := by decide +kernel
def R_ES : String := "ExactShares2"
def F_ES : u_T := fun k => match k with
  | 0 => ("ExactShares2", "columns", "I", true)
  | 1 => ("ExactShares2", "learner", "LExactShares2$Learner;", true)
  | 2 => ("ExactShares2", "rows", "LExactShares2$Rows;", true)
  | 3 => ("ExactShares2", "groups", "LExactShares2$Groups;", true)
  | 4 => ("ExactShares2", "means", "LExactShares2$Means;", true)
  | _ => ("ExactShares2", "search", "LExactShares2$Search;", true)
def t_ES : Nat → FieldType := fun k => match k with
  | 0 => .int
  | 1 => .object "ExactShares2$Learner"
  | 2 => .object "ExactShares2$Rows"
  | 3 => .object "ExactShares2$Groups"
  | 4 => .object "ExactShares2$Means"
  | _ => .object "ExactShares2$Search"
theorem n_ES : ∀ a, a < 6 → ∀ b, b < 6 → a ≠ b → (F_ES a).2.1 ≠ (F_ES b).2.1 := by decide +kernel
theorem t_ES_ok : ∀ k, k < 6 → parseFieldDescriptor (F_ES k).2.2.1 = some (t_ES k) := by decide +kernel
def R_Md : String := "ExactShares2Model"
def F_Md : u_T := fun k => match k with
  | 0 => ("ExactShares2Model", "code", "I", false)
  | 1 => ("ExactShares2Model", "columns", "I", true)
  | 2 => ("ExactShares2Model", "nodes", "I", false)
  | 3 => ("ExactShares2Model", "isLeaf", "[Z", true)
  | 4 => ("ExactShares2Model", "number", "[I", true)
  | 5 => ("ExactShares2Model", "splitOf", "[I", true)
  | 6 => ("ExactShares2Model", "low", "[I", true)
  | 7 => ("ExactShares2Model", "high", "[I", true)
  | 8 => ("ExactShares2Model", "roots", "I", false)
  | 9 => ("ExactShares2Model", "root", "[I", true)
  | 10 => ("ExactShares2Model", "weights", "[I", true)
  | 11 => ("ExactShares2Model", "groups", "[I", true)
  | 12 => ("ExactShares2Model", "barred", "[Z", true)
  | 13 => ("ExactShares2Model", "rows", "I", false)
  | 14 => ("ExactShares2Model", "items", "[I", true)
  | 15 => ("ExactShares2Model", "now", "[I", true)
  | 16 => ("ExactShares2Model", "sums", "[J", true)
  | 17 => ("ExactShares2Model", "many", "I", false)
  | 18 => ("ExactShares2Model", "parts", "[I", true)
  | 19 => ("ExactShares2Model", "order", "[I", true)
  | 20 => ("ExactShares2Model", "sizes", "[J", true)
  | 21 => ("ExactShares2Model", "from", "[I", true)
  | 22 => ("ExactShares2Model", "best", "[I", true)
  | 23 => ("ExactShares2Model", "bestMany", "I", false)
  | _ => ("ExactShares2Model", "bestSum", "I", false)
def t_Md : Nat → FieldType := fun k => match k with
  | 0 => .int
  | 1 => .int
  | 2 => .int
  | 3 => .array .boolean
  | 4 => .array .int
  | 5 => .array .int
  | 6 => .array .int
  | 7 => .array .int
  | 8 => .int
  | 9 => .array .int
  | 10 => .array .int
  | 11 => .array .int
  | 12 => .array .boolean
  | 13 => .int
  | 14 => .array .int
  | 15 => .array .int
  | 16 => .array .long
  | 17 => .int
  | 18 => .array .int
  | 19 => .array .int
  | 20 => .array .long
  | 21 => .array .int
  | 22 => .array .int
  | 23 => .int
  | _ => .int
theorem n_Md : ∀ a, a < 25 → ∀ b, b < 25 → a ≠ b → (F_Md a).2.1 ≠ (F_Md b).2.1 := by decide +kernel
theorem t_Md_ok : ∀ k, k < 25 → parseFieldDescriptor (F_Md k).2.2.1 = some (t_Md k) := by decide +kernel
def R_In : String := "java/lang/Integer"
def R_La : String := "ExactShares2Law"
abbrev zcl : List vw_C := [(R_Ln, F_Ln, 9), (R_Rw, F_Rw, 3), (R_Gr, F_Gr, 2), (R_Or, F_Or, 4), (R_Me, F_Me, 6), (R_Se, F_Se, 11), (R_ES, F_ES, 6), (R_Md, F_Md, 25)]
abbrev b_ES_init : ByteArray := prog_1_method_1_code
def y_ES_init : MethodName := ⟨R_ES, "<init>", "(I)V"⟩
abbrev b_Ln_init : ByteArray := prog_3_method_1_code
def y_Ln_init : MethodName := ⟨R_Ln, "<init>", "()V"⟩
abbrev b_Rw_init : ByteArray := prog_6_method_1_code
def y_Rw_init : MethodName := ⟨R_Rw, "<init>", "()V"⟩
abbrev b_Gr_init : ByteArray := prog_2_method_1_code
def y_Gr_init : MethodName := ⟨R_Gr, "<init>", "(I)V"⟩
abbrev b_Gr_standAlone : ByteArray := prog_2_method_2_code
def y_Gr_standAlone : MethodName := ⟨R_Gr, "standAlone", "()V"⟩
abbrev b_Me_init : ByteArray := prog_4_method_1_code
def y_Me_init : MethodName := ⟨R_Me, "<init>", "(LExactShares2$Learner;LExactShares2$Rows;LExactShares2$Groups;)V"⟩
abbrev b_Or_init : ByteArray := prog_5_method_1_code
def y_Or_init : MethodName := ⟨R_Or, "<init>", "(LExactShares2$Groups;)V"⟩
abbrev b_Se_init : ByteArray := prog_7_method_1_code
def y_Se_init : MethodName := ⟨R_Se, "<init>", "(ILExactShares2$Learner;LExactShares2$Rows;)V"⟩
abbrev b_ES_leaf : ByteArray := prog_1_method_2_code
def y_ES_leaf : MethodName := ⟨R_ES, "leaf", "(I)I"⟩
abbrev b_ES_isWithin : ByteArray := prog_1_method_24_code
def y_ES_isWithin : MethodName := ⟨R_ES, "isWithin", "(II)Z"⟩
abbrev b_Ln_addLeaf : ByteArray := prog_3_method_3_code
def y_Ln_addLeaf : MethodName := ⟨R_Ln, "addLeaf", "(I)I"⟩
abbrev b_Ln_addNode : ByteArray := prog_3_method_5_code
def y_Ln_addNode : MethodName := ⟨R_Ln, "addNode", "(IIII)I"⟩
abbrev b_ES_split : ByteArray := prog_1_method_3_code
def y_ES_split : MethodName := ⟨R_ES, "split", "(IIII)I"⟩
abbrev b_ES_isColumn : ByteArray := prog_1_method_21_code
def y_ES_isColumn : MethodName := ⟨R_ES, "isColumn", "(I)Z"⟩
abbrev b_Ln_hasNode : ByteArray := prog_3_method_2_code
def y_Ln_hasNode : MethodName := ⟨R_Ln, "hasNode", "(I)Z"⟩
abbrev b_Ln_addSplit : ByteArray := prog_3_method_4_code
def y_Ln_addSplit : MethodName := ⟨R_Ln, "addSplit", "(IIII)I"⟩
abbrev b_ES_root : ByteArray := prog_1_method_4_code
def y_ES_root : MethodName := ⟨R_ES, "root", "(I)I"⟩
abbrev b_Ln_addRoot : ByteArray := prog_3_method_6_code
def y_Ln_addRoot : MethodName := ⟨R_Ln, "addRoot", "(I)I"⟩
abbrev b_ES_weight : ByteArray := prog_1_method_5_code
def y_ES_weight : MethodName := ⟨R_ES, "weight", "(II)I"⟩
abbrev b_Ln_weigh : ByteArray := prog_3_method_7_code
def y_Ln_weigh : MethodName := ⟨R_Ln, "weigh", "(II)V"⟩
abbrev b_ES_clear : ByteArray := prog_1_method_6_code
def y_ES_clear : MethodName := ⟨R_ES, "clear", "()I"⟩
abbrev b_Ln_forget : ByteArray := prog_3_method_8_code
def y_Ln_forget : MethodName := ⟨R_Ln, "forget", "()I"⟩
abbrev b_Rw_forget : ByteArray := prog_6_method_6_code
def y_Rw_forget : MethodName := ⟨R_Rw, "forget", "()V"⟩
abbrev b_Rw_empty : ByteArray := prog_6_method_7_code
def y_Rw_empty : MethodName := ⟨R_Rw, "empty", "([I)V"⟩
abbrev b_Se_unbarAll : ByteArray := prog_7_method_3_code
def y_Se_unbarAll : MethodName := ⟨R_Se, "unbarAll", "()V"⟩
abbrev b_ES_background : ByteArray := prog_1_method_7_code
def y_ES_background : MethodName := ⟨R_ES, "background", "()I"⟩
abbrev b_Rw_addRow : ByteArray := prog_6_method_5_code
def y_Rw_addRow : MethodName := ⟨R_Rw, "addRow", "()I"⟩
abbrev b_ES_item : ByteArray := prog_1_method_8_code
def y_ES_item : MethodName := ⟨R_ES, "item", "(III)I"⟩
abbrev b_Rw_has : ByteArray := prog_6_method_3_code
def y_Rw_has : MethodName := ⟨R_Rw, "has", "(I)Z"⟩
abbrev b_Rw_at : ByteArray := prog_6_method_4_code
def y_Rw_at : MethodName := ⟨R_Rw, "at", "(I)[I"⟩
abbrev b_ES_group : ByteArray := prog_1_method_9_code
def y_ES_group : MethodName := ⟨R_ES, "group", "(II)I"⟩
abbrev b_Gr_move : ByteArray := prog_2_method_4_code
def y_Gr_move : MethodName := ⟨R_Gr, "move", "(II)I"⟩
abbrev b_ES_answer : ByteArray := prog_1_method_10_code
def y_ES_answer : MethodName := ⟨R_ES, "answer", "(I)J"⟩
abbrev b_Ln_sumFor : ByteArray := prog_3_method_9_code
def y_Ln_sumFor : MethodName := ⟨R_Ln, "sumFor", "([I)I"⟩
abbrev b_Ln_givenBy : ByteArray := prog_3_method_10_code
def y_Ln_givenBy : MethodName := ⟨R_Ln, "givenBy", "(I[I)I"⟩
abbrev b_ES_rank : ByteArray := prog_1_method_17_code
def y_ES_rank : MethodName := ⟨R_ES, "rank", "(I)I"⟩
abbrev b_Gr_count : ByteArray := prog_2_method_6_code
def y_Gr_count : MethodName := ⟨R_Gr, "count", "()I"⟩
abbrev b_Gr_there : ByteArray := prog_2_method_5_code
def y_Gr_there : MethodName := ⟨R_Gr, "there", "()I"⟩
abbrev b_In_bitCount : ByteArray := prog_12_method_49_code
def y_In_bitCount : MethodName := ⟨R_In, "bitCount", "(I)I"⟩
abbrev b_Rw_count : ByteArray := prog_6_method_2_code
def y_Rw_count : MethodName := ⟨R_Rw, "count", "()I"⟩
abbrev b_Me_measureShares : ByteArray := prog_4_method_14_code
def y_Me_measureShares : MethodName := ⟨R_Me, "measureShares", "()V"⟩
abbrev b_Me_shareSum : ByteArray := prog_4_method_5_code
def y_Me_shareSum : MethodName := ⟨R_Me, "shareSum", "(II)J"⟩
abbrev b_Gr_columnsOf : ByteArray := prog_2_method_7_code
def y_Gr_columnsOf : MethodName := ⟨R_Gr, "columnsOf", "(I)I"⟩
abbrev b_Me_ordersAround : ByteArray := prog_4_method_7_code
def y_Me_ordersAround : MethodName := ⟨R_Me, "ordersAround", "(II)J"⟩
abbrev b_ES_factorial : ByteArray := prog_1_method_27_code
def y_ES_factorial : MethodName := ⟨R_ES, "factorial", "(I)J"⟩
abbrev b_Me_brought : ByteArray := prog_4_method_4_code
def y_Me_brought : MethodName := ⟨R_Me, "brought", "(II)J"⟩
abbrev b_Me_total : ByteArray := prog_4_method_2_code
def y_Me_total : MethodName := ⟨R_Me, "total", "(I)J"⟩
abbrev b_Me_mix : ByteArray := prog_4_method_3_code
def y_Me_mix : MethodName := ⟨R_Me, "mix", "(I[I[I)V"⟩
abbrev b_Me_groupAtPlace : ByteArray := prog_4_method_15_code
def y_Me_groupAtPlace : MethodName := ⟨R_Me, "groupAtPlace", "(I)I"⟩
abbrev b_Me_countAhead : ByteArray := prog_4_method_16_code
def y_Me_countAhead : MethodName := ⟨R_Me, "countAhead", "(II)I"⟩
abbrev b_ES_bar : ByteArray := prog_1_method_18_code
def y_ES_bar : MethodName := ⟨R_ES, "bar", "(IZ)I"⟩
abbrev b_Se_setBarred : ByteArray := prog_7_method_2_code
def y_Se_setBarred : MethodName := ⟨R_Se, "setBarred", "(IZ)Z"⟩
abbrev b_ES_nearest : ByteArray := prog_1_method_19_code
def y_ES_nearest : MethodName := ⟨R_ES, "nearest", "(I)I"⟩
abbrev b_Se_find : ByteArray := prog_7_method_4_code
def y_Se_find : MethodName := ⟨R_Se, "find", "(I)Z"⟩
abbrev b_Se_gatherChoices : ByteArray := prog_7_method_7_code
def y_Se_gatherChoices : MethodName := ⟨R_Se, "gatherChoices", "(I)V"⟩
abbrev b_Se_addChoice : ByteArray := prog_7_method_8_code
def y_Se_addChoice : MethodName := ⟨R_Se, "addChoice", "(II)V"⟩
abbrev b_Se_open : ByteArray := prog_7_method_9_code
def y_Se_open : MethodName := ⟨R_Se, "open", "(I)V"⟩
abbrev b_Se_visit : ByteArray := prog_7_method_10_code
def y_Se_visit : MethodName := ⟨R_Se, "visit", "(II)V"⟩
abbrev b_Ln_boundWithin : ByteArray := prog_3_method_11_code
def y_Ln_boundWithin : MethodName := ⟨R_Ln, "boundWithin", "([I[I)I"⟩
abbrev b_Ln_peakOf : ByteArray := prog_3_method_12_code
def y_Ln_peakOf : MethodName := ⟨R_Ln, "peakOf", "(I[I[I)I"⟩
abbrev b_Se_settle : ByteArray := prog_7_method_11_code
def y_Se_settle : MethodName := ⟨R_Se, "settle", "(II)V"⟩
abbrev b_Se_costOf : ByteArray := prog_7_method_12_code
def y_Se_costOf : MethodName := ⟨R_Se, "costOf", "(II)I"⟩
abbrev b_Se_keep : ByteArray := prog_7_method_13_code
def y_Se_keep : MethodName := ⟨R_Se, "keep", "(I)V"⟩
abbrev b_Se_differing : ByteArray := prog_7_method_5_code
def y_Se_differing : MethodName := ⟨R_Se, "differing", "()I"⟩
abbrev b_ES_nearestAt : ByteArray := prog_1_method_20_code
def y_ES_nearestAt : MethodName := ⟨R_ES, "nearestAt", "(II)J"⟩
abbrev b_Se_foundIn : ByteArray := prog_7_method_6_code
def y_Se_foundIn : MethodName := ⟨R_Se, "foundIn", "(I)I"⟩
abbrev b_La_cell : ByteArray := method_2_code
def y_La_cell : MethodName := ⟨R_La, "cell", "([II)I"⟩
abbrev b_La_value : ByteArray := method_3_code
def y_La_value : MethodName := ⟨R_La, "value", "(LExactShares2;II[J)I"⟩
abbrev b_ES_value : ByteArray := prog_1_method_11_code
def y_ES_value : MethodName := ⟨R_ES, "value", "(II)J"⟩
abbrev b_ES_isPart : ByteArray := prog_1_method_22_code
def y_ES_isPart : MethodName := ⟨R_ES, "isPart", "(I)Z"⟩
abbrev b_ES_told : ByteArray := prog_1_method_25_code
def y_ES_told : MethodName := ⟨R_ES, "told", "(JJI)J"⟩
abbrev b_ES_commonDivisor : ByteArray := prog_1_method_26_code
def y_ES_commonDivisor : MethodName := ⟨R_ES, "commonDivisor", "(JJ)J"⟩
abbrev b_La_share : ByteArray := method_4_code
def y_La_share : MethodName := ⟨R_La, "share", "(LExactShares2;III[J)I"⟩
abbrev b_ES_share : ByteArray := prog_1_method_12_code
def y_ES_share : MethodName := ⟨R_ES, "share", "(III)J"⟩
abbrev b_ES_isManner : ByteArray := prog_1_method_23_code
def y_ES_isManner : MethodName := ⟨R_ES, "isManner", "(I)Z"⟩
abbrev b_Gr_ofColumn : ByteArray := prog_2_method_3_code
def y_Gr_ofColumn : MethodName := ⟨R_Gr, "ofColumn", "(I)I"⟩
abbrev b_Me_shareWays : ByteArray := prog_4_method_6_code
def y_Me_shareWays : MethodName := ⟨R_Me, "shareWays", "(I)J"⟩
abbrev b_La_both : ByteArray := method_5_code
def y_La_both : MethodName := ⟨R_La, "both", "(LExactShares2;III[J)I"⟩
abbrev b_ES_both : ByteArray := prog_1_method_13_code
def y_ES_both : MethodName := ⟨R_ES, "both", "(III)J"⟩
abbrev b_Me_togetherSum : ByteArray := prog_4_method_8_code
def y_Me_togetherSum : MethodName := ⟨R_Me, "togetherSum", "(II)J"⟩
abbrev b_Me_togetherWays : ByteArray := prog_4_method_9_code
def y_Me_togetherWays : MethodName := ⟨R_Me, "togetherWays", "()J"⟩
abbrev b_La_drawn : ByteArray := method_6_code
def y_La_drawn : MethodName := ⟨R_La, "drawn", "(LExactShares2;IIII[J)I"⟩
abbrev b_ES_drawn : ByteArray := prog_1_method_14_code
def y_ES_drawn : MethodName := ⟨R_ES, "drawn", "(IIII)J"⟩
abbrev b_Me_drawnSum : ByteArray := prog_4_method_10_code
def y_Me_drawnSum : MethodName := ⟨R_Me, "drawnSum", "(III)J"⟩
abbrev b_Or_start : ByteArray := prog_5_method_2_code
def y_Or_start : MethodName := ⟨R_Or, "start", "(I)V"⟩
abbrev b_Or_drawNext : ByteArray := prog_5_method_3_code
def y_Or_drawNext : MethodName := ⟨R_Or, "drawNext", "()V"⟩
abbrev b_Or_lineUp : ByteArray := prog_5_method_4_code
def y_Or_lineUp : MethodName := ⟨R_Or, "lineUp", "()V"⟩
abbrev b_Or_below : ByteArray := prog_5_method_5_code
def y_Or_below : MethodName := ⟨R_Or, "below", "(I)I"⟩
abbrev b_Or_groupsBefore : ByteArray := prog_5_method_6_code
def y_Or_groupsBefore : MethodName := ⟨R_Or, "groupsBefore", "(I)I"⟩
abbrev b_La_partial : ByteArray := method_7_code
def y_La_partial : MethodName := ⟨R_La, "partial", "(LExactShares2;III[J)I"⟩
abbrev b_ES_partial : ByteArray := prog_1_method_15_code
def y_ES_partial : MethodName := ⟨R_ES, "partial", "(III)J"⟩
abbrev b_Me_replacedSum : ByteArray := prog_4_method_11_code
def y_Me_replacedSum : MethodName := ⟨R_Me, "replacedSum", "(II)J"⟩
abbrev b_Me_sumWith : ByteArray := prog_4_method_12_code
def y_Me_sumWith : MethodName := ⟨R_Me, "sumWith", "([III)J"⟩
abbrev b_La_worth : ByteArray := method_8_code
def y_La_worth : MethodName := ⟨R_La, "worth", "(LExactShares2;II[J)I"⟩
abbrev b_ES_worth : ByteArray := prog_1_method_16_code
def y_ES_worth : MethodName := ⟨R_ES, "worth", "(II)J"⟩
abbrev b_Me_changeSum : ByteArray := prog_4_method_13_code
def y_Me_changeSum : MethodName := ⟨R_Me, "changeSum", "(I)J"⟩
abbrev b_Md_init : ByteArray := prog_9_method_1_code
def y_Md_init : MethodName := ⟨R_Md, "<init>", "(I)V"⟩
abbrev b_Md_clear : ByteArray := prog_9_method_9_code
def y_Md_clear : MethodName := ⟨R_Md, "clear", "()I"⟩
abbrev b_Md_thrown : ByteArray := prog_9_method_2_code
def y_Md_thrown : MethodName := ⟨R_Md, "thrown", "()I"⟩
abbrev b_Md_leaf : ByteArray := prog_9_method_5_code
def y_Md_leaf : MethodName := ⟨R_Md, "leaf", "(I)I"⟩
abbrev b_Md_in : ByteArray := prog_9_method_3_code
def y_Md_in : MethodName := ⟨R_Md, "in", "(III)Z"⟩
abbrev b_Md_split : ByteArray := prog_9_method_6_code
def y_Md_split : MethodName := ⟨R_Md, "split", "(IIII)I"⟩
abbrev b_Md_isColumn : ByteArray := prog_9_method_4_code
def y_Md_isColumn : MethodName := ⟨R_Md, "isColumn", "(I)Z"⟩
abbrev b_Md_root : ByteArray := prog_9_method_7_code
def y_Md_root : MethodName := ⟨R_Md, "root", "(I)I"⟩
abbrev b_Md_weight : ByteArray := prog_9_method_8_code
def y_Md_weight : MethodName := ⟨R_Md, "weight", "(II)I"⟩
abbrev b_Md_background : ByteArray := prog_9_method_10_code
def y_Md_background : MethodName := ⟨R_Md, "background", "()I"⟩
abbrev b_Md_item : ByteArray := prog_9_method_11_code
def y_Md_item : MethodName := ⟨R_Md, "item", "(III)I"⟩
abbrev b_Md_group : ByteArray := prog_9_method_12_code
def y_Md_group : MethodName := ⟨R_Md, "group", "(II)I"⟩
abbrev b_Md_answer : ByteArray := prog_9_method_15_code
def y_Md_answer : MethodName := ⟨R_Md, "answer", "(I)J"⟩
abbrev b_Md_take : ByteArray := prog_9_method_13_code
def y_Md_take : MethodName := ⟨R_Md, "take", "(I)V"⟩
abbrev b_Md_answerNow : ByteArray := prog_9_method_14_code
def y_Md_answerNow : MethodName := ⟨R_Md, "answerNow", "()J"⟩
abbrev b_Md_value : ByteArray := prog_9_method_19_code
def y_Md_value : MethodName := ⟨R_Md, "value", "(II)J"⟩
abbrev b_Md_throwsNow : ByteArray := prog_9_method_18_code
def y_Md_throwsNow : MethodName := ⟨R_Md, "throwsNow", "()Z"⟩
abbrev b_Md_sumAll : ByteArray := prog_9_method_16_code
def y_Md_sumAll : MethodName := ⟨R_Md, "sumAll", "()V"⟩
abbrev b_Md_part : ByteArray := prog_9_method_17_code
def y_Md_part : MethodName := ⟨R_Md, "part", "(JJI)J"⟩
abbrev b_Md_share : ByteArray := prog_9_method_27_code
def y_Md_share : MethodName := ⟨R_Md, "share", "(III)J"⟩
abbrev b_Md_groupBits : ByteArray := prog_9_method_20_code
def y_Md_groupBits : MethodName := ⟨R_Md, "groupBits", "(I)I"⟩
abbrev b_Md_shareSum : ByteArray := prog_9_method_25_code
def y_Md_shareSum : MethodName := ⟨R_Md, "shareSum", "(I)J"⟩
abbrev b_Md_listParts : ByteArray := prog_9_method_21_code
def y_Md_listParts : MethodName := ⟨R_Md, "listParts", "(II)V"⟩
abbrev b_Md_orders : ByteArray := prog_9_method_22_code
def y_Md_orders : MethodName := ⟨R_Md, "orders", "()I"⟩
abbrev b_Md_layOrder : ByteArray := prog_9_method_23_code
def y_Md_layOrder : MethodName := ⟨R_Md, "layOrder", "(I)V"⟩
abbrev b_Md_before : ByteArray := prog_9_method_24_code
def y_Md_before : MethodName := ⟨R_Md, "before", "(I)I"⟩
abbrev b_Md_setSum : ByteArray := prog_9_method_26_code
def y_Md_setSum : MethodName := ⟨R_Md, "setSum", "(I)J"⟩
abbrev b_Md_both : ByteArray := prog_9_method_28_code
def y_Md_both : MethodName := ⟨R_Md, "both", "(III)J"⟩
abbrev b_Md_drawn : ByteArray := prog_9_method_29_code
def y_Md_drawn : MethodName := ⟨R_Md, "drawn", "(IIII)J"⟩
abbrev b_Md_partial : ByteArray := prog_9_method_30_code
def y_Md_partial : MethodName := ⟨R_Md, "partial", "(III)J"⟩
abbrev b_Md_worth : ByteArray := prog_9_method_31_code
def y_Md_worth : MethodName := ⟨R_Md, "worth", "(II)J"⟩
abbrev b_Md_rank : ByteArray := prog_9_method_33_code
def y_Md_rank : MethodName := ⟨R_Md, "rank", "(I)I"⟩
abbrev b_Md_findSizes : ByteArray := prog_9_method_32_code
def y_Md_findSizes : MethodName := ⟨R_Md, "findSizes", "()V"⟩
abbrev b_Md_bar : ByteArray := prog_9_method_34_code
def y_Md_bar : MethodName := ⟨R_Md, "bar", "(IZ)I"⟩
abbrev b_Md_nearest : ByteArray := prog_9_method_38_code
def y_Md_nearest : MethodName := ⟨R_Md, "nearest", "(I)I"⟩
abbrev b_Md_findNearest : ByteArray := prog_9_method_37_code
def y_Md_findNearest : MethodName := ⟨R_Md, "findNearest", "(I)Z"⟩
abbrev b_Md_hold : ByteArray := prog_9_method_35_code
def y_Md_hold : MethodName := ⟨R_Md, "hold", "(Z)V"⟩
abbrev b_Md_next : ByteArray := prog_9_method_36_code
def y_Md_next : MethodName := ⟨R_Md, "next", "(I)I"⟩
abbrev b_Md_nearestAt : ByteArray := prog_9_method_39_code
def y_Md_nearestAt : MethodName := ⟨R_Md, "nearestAt", "(II)J"⟩
/-- the words that stay as they are -/
def zws : List Cond := lw_tbl.filter goodWord
theorem zws_in {w : Cond} (h : w ∈ zws) : w ∈ lw_tbl := (List.mem_filter.mp h).1
theorem zmem {c : Cond} (i : Nat) (h : tables_1[i]? = some c) (g : goodWord c = true) : c ∈ zws := List.mem_filter.mpr ⟨List.mem_append_right _ (List.mem_of_getElem? h), g⟩
theorem zsel {c : Cond} (i : Nat) (h : (k2_sels lw_privs)[i]? = some c) (g : goodWord c = true) : c ∈ zws := List.mem_filter.mpr ⟨List.mem_append_left _ (List.mem_of_getElem? h), g⟩
theorem zgood {w : Cond} (h : w ∈ zws) : (w.onTables && w.keeps) = true ∨ ∃ ty, w = .arrayClass ty := good_of_word (List.mem_filter.mp h).2
theorem zgo {w : Cond} (h : w ∈ zws) : GoodIn zws (w :: zws) := fun v hv => by
  rcases List.mem_cons.mp hv with rfl | hv
  · exact ⟨h, zgood h⟩
  · exact ⟨hv, zgood hv⟩
end
section
theorem wc_ES_init : Cond.code y_ES_init b_ES_init 2 none ∈ zws := zmem 19 (by decide +kernel) (by decide +kernel)
theorem wi_ES_init : Cond.instanceMethod y_ES_init ∈ zws := zmem 18 (by decide +kernel) (by decide +kernel)
theorem wc_Ln_init : Cond.code y_Ln_init b_Ln_init 1 none ∈ zws := zmem 33 (by decide +kernel) (by decide +kernel)
theorem wi_Ln_init : Cond.instanceMethod y_Ln_init ∈ zws := zmem 32 (by decide +kernel) (by decide +kernel)
theorem wc_Rw_init : Cond.code y_Rw_init b_Rw_init 1 none ∈ zws := zmem 68 (by decide +kernel) (by decide +kernel)
theorem wi_Rw_init : Cond.instanceMethod y_Rw_init ∈ zws := zmem 67 (by decide +kernel) (by decide +kernel)
theorem wc_Gr_init : Cond.code y_Gr_init b_Gr_init 2 none ∈ zws := zmem 86 (by decide +kernel) (by decide +kernel)
theorem wi_Gr_init : Cond.instanceMethod y_Gr_init ∈ zws := zmem 85 (by decide +kernel) (by decide +kernel)
theorem wc_Gr_standAlone : Cond.code y_Gr_standAlone b_Gr_standAlone 2 none ∈ zws := zmem 91 (by decide +kernel) (by decide +kernel)
theorem wi_Gr_standAlone : Cond.instanceMethod y_Gr_standAlone ∈ zws := zmem 89 (by decide +kernel) (by decide +kernel)
theorem wc_Me_init : Cond.code y_Me_init b_Me_init 4 none ∈ zws := zmem 103 (by decide +kernel) (by decide +kernel)
theorem wi_Me_init : Cond.instanceMethod y_Me_init ∈ zws := zmem 102 (by decide +kernel) (by decide +kernel)
theorem wc_Or_init : Cond.code y_Or_init b_Or_init 2 none ∈ zws := zmem 109 (by decide +kernel) (by decide +kernel)
theorem wi_Or_init : Cond.instanceMethod y_Or_init ∈ zws := zmem 108 (by decide +kernel) (by decide +kernel)
theorem wc_Se_init : Cond.code y_Se_init b_Se_init 4 none ∈ zws := zmem 148 (by decide +kernel) (by decide +kernel)
theorem wi_Se_init : Cond.instanceMethod y_Se_init ∈ zws := zmem 147 (by decide +kernel) (by decide +kernel)
theorem wc_ES_leaf : Cond.code y_ES_leaf b_ES_leaf 2 (some .int) ∈ zws := zmem 209 (by decide +kernel) (by decide +kernel)
theorem wi_ES_leaf : Cond.instanceMethod y_ES_leaf ∈ zws := zmem 207 (by decide +kernel) (by decide +kernel)
theorem wc_ES_isWithin : Cond.code y_ES_isWithin b_ES_isWithin 2 (some .boolean) ∈ zws := zmem 212 (by decide +kernel) (by decide +kernel)
theorem wst_ES_isWithin : Cond.static y_ES_isWithin ∈ zws := zmem 211 (by decide +kernel) (by decide +kernel)
theorem wc_Ln_addLeaf : Cond.code y_Ln_addLeaf b_Ln_addLeaf 2 (some .int) ∈ zws := zmem 216 (by decide +kernel) (by decide +kernel)
theorem wi_Ln_addLeaf : Cond.instanceMethod y_Ln_addLeaf ∈ zws := zmem 214 (by decide +kernel) (by decide +kernel)
theorem wc_Ln_addNode : Cond.code y_Ln_addNode b_Ln_addNode 5 (some .int) ∈ zws := zmem 220 (by decide +kernel) (by decide +kernel)
theorem wi_Ln_addNode : Cond.instanceMethod y_Ln_addNode ∈ zws := zmem 219 (by decide +kernel) (by decide +kernel)
theorem wc_ES_split : Cond.code y_ES_split b_ES_split 5 (some .int) ∈ zws := zmem 224 (by decide +kernel) (by decide +kernel)
theorem wi_ES_split : Cond.instanceMethod y_ES_split ∈ zws := zmem 222 (by decide +kernel) (by decide +kernel)
theorem wc_ES_isColumn : Cond.code y_ES_isColumn b_ES_isColumn 2 (some .boolean) ∈ zws := zmem 228 (by decide +kernel) (by decide +kernel)
theorem wi_ES_isColumn : Cond.instanceMethod y_ES_isColumn ∈ zws := zmem 227 (by decide +kernel) (by decide +kernel)
theorem wc_Ln_hasNode : Cond.code y_Ln_hasNode b_Ln_hasNode 2 (some .boolean) ∈ zws := zmem 232 (by decide +kernel) (by decide +kernel)
theorem wi_Ln_hasNode : Cond.instanceMethod y_Ln_hasNode ∈ zws := zmem 230 (by decide +kernel) (by decide +kernel)
theorem wc_Ln_addSplit : Cond.code y_Ln_addSplit b_Ln_addSplit 5 (some .int) ∈ zws := zmem 236 (by decide +kernel) (by decide +kernel)
theorem wi_Ln_addSplit : Cond.instanceMethod y_Ln_addSplit ∈ zws := zmem 234 (by decide +kernel) (by decide +kernel)
theorem wc_ES_root : Cond.code y_ES_root b_ES_root 2 (some .int) ∈ zws := zmem 240 (by decide +kernel) (by decide +kernel)
theorem wi_ES_root : Cond.instanceMethod y_ES_root ∈ zws := zmem 238 (by decide +kernel) (by decide +kernel)
theorem wc_Ln_addRoot : Cond.code y_Ln_addRoot b_Ln_addRoot 2 (some .int) ∈ zws := zmem 244 (by decide +kernel) (by decide +kernel)
theorem wi_Ln_addRoot : Cond.instanceMethod y_Ln_addRoot ∈ zws := zmem 242 (by decide +kernel) (by decide +kernel)
theorem wc_ES_weight : Cond.code y_ES_weight b_ES_weight 3 (some .int) ∈ zws := zmem 248 (by decide +kernel) (by decide +kernel)
theorem wi_ES_weight : Cond.instanceMethod y_ES_weight ∈ zws := zmem 246 (by decide +kernel) (by decide +kernel)
theorem wc_Ln_weigh : Cond.code y_Ln_weigh b_Ln_weigh 3 none ∈ zws := zmem 252 (by decide +kernel) (by decide +kernel)
theorem wi_Ln_weigh : Cond.instanceMethod y_Ln_weigh ∈ zws := zmem 250 (by decide +kernel) (by decide +kernel)
theorem wc_ES_clear : Cond.code y_ES_clear b_ES_clear 2 (some .int) ∈ zws := zmem 256 (by decide +kernel) (by decide +kernel)
theorem wi_ES_clear : Cond.instanceMethod y_ES_clear ∈ zws := zmem 254 (by decide +kernel) (by decide +kernel)
theorem wc_Ln_forget : Cond.code y_Ln_forget b_Ln_forget 3 (some .int) ∈ zws := zmem 260 (by decide +kernel) (by decide +kernel)
theorem wi_Ln_forget : Cond.instanceMethod y_Ln_forget ∈ zws := zmem 258 (by decide +kernel) (by decide +kernel)
theorem wc_Rw_forget : Cond.code y_Rw_forget b_Rw_forget 1 none ∈ zws := zmem 264 (by decide +kernel) (by decide +kernel)
theorem wi_Rw_forget : Cond.instanceMethod y_Rw_forget ∈ zws := zmem 262 (by decide +kernel) (by decide +kernel)
theorem wc_Rw_empty : Cond.code y_Rw_empty b_Rw_empty 2 none ∈ zws := zmem 267 (by decide +kernel) (by decide +kernel)
theorem wst_Rw_empty : Cond.static y_Rw_empty ∈ zws := zmem 266 (by decide +kernel) (by decide +kernel)
theorem wc_Se_unbarAll : Cond.code y_Se_unbarAll b_Se_unbarAll 2 none ∈ zws := zmem 272 (by decide +kernel) (by decide +kernel)
theorem wi_Se_unbarAll : Cond.instanceMethod y_Se_unbarAll ∈ zws := zmem 270 (by decide +kernel) (by decide +kernel)
theorem wc_ES_background : Cond.code y_ES_background b_ES_background 1 (some .int) ∈ zws := zmem 276 (by decide +kernel) (by decide +kernel)
theorem wi_ES_background : Cond.instanceMethod y_ES_background ∈ zws := zmem 274 (by decide +kernel) (by decide +kernel)
theorem wc_Rw_addRow : Cond.code y_Rw_addRow b_Rw_addRow 1 (some .int) ∈ zws := zmem 280 (by decide +kernel) (by decide +kernel)
theorem wi_Rw_addRow : Cond.instanceMethod y_Rw_addRow ∈ zws := zmem 278 (by decide +kernel) (by decide +kernel)
theorem wc_ES_item : Cond.code y_ES_item b_ES_item 4 (some .int) ∈ zws := zmem 284 (by decide +kernel) (by decide +kernel)
theorem wi_ES_item : Cond.instanceMethod y_ES_item ∈ zws := zmem 282 (by decide +kernel) (by decide +kernel)
theorem wc_Rw_has : Cond.code y_Rw_has b_Rw_has 2 (some .boolean) ∈ zws := zmem 288 (by decide +kernel) (by decide +kernel)
theorem wi_Rw_has : Cond.instanceMethod y_Rw_has ∈ zws := zmem 286 (by decide +kernel) (by decide +kernel)
theorem wc_Rw_at : Cond.code y_Rw_at b_Rw_at 2 (some (.array .int)) ∈ zws := zmem 292 (by decide +kernel) (by decide +kernel)
theorem wi_Rw_at : Cond.instanceMethod y_Rw_at ∈ zws := zmem 290 (by decide +kernel) (by decide +kernel)
theorem wc_ES_group : Cond.code y_ES_group b_ES_group 3 (some .int) ∈ zws := zmem 296 (by decide +kernel) (by decide +kernel)
theorem wi_ES_group : Cond.instanceMethod y_ES_group ∈ zws := zmem 294 (by decide +kernel) (by decide +kernel)
theorem wc_Gr_move : Cond.code y_Gr_move b_Gr_move 4 (some .int) ∈ zws := zmem 300 (by decide +kernel) (by decide +kernel)
theorem wi_Gr_move : Cond.instanceMethod y_Gr_move ∈ zws := zmem 298 (by decide +kernel) (by decide +kernel)
theorem wc_ES_answer : Cond.code y_ES_answer b_ES_answer 2 (some .long) ∈ zws := zmem 304 (by decide +kernel) (by decide +kernel)
theorem wi_ES_answer : Cond.instanceMethod y_ES_answer ∈ zws := zmem 302 (by decide +kernel) (by decide +kernel)
theorem wc_Ln_sumFor : Cond.code y_Ln_sumFor b_Ln_sumFor 4 (some .int) ∈ zws := zmem 309 (by decide +kernel) (by decide +kernel)
theorem wi_Ln_sumFor : Cond.instanceMethod y_Ln_sumFor ∈ zws := zmem 307 (by decide +kernel) (by decide +kernel)
theorem wc_Ln_givenBy : Cond.code y_Ln_givenBy b_Ln_givenBy 6 (some .int) ∈ zws := zmem 313 (by decide +kernel) (by decide +kernel)
theorem wi_Ln_givenBy : Cond.instanceMethod y_Ln_givenBy ∈ zws := zmem 312 (by decide +kernel) (by decide +kernel)
theorem wc_ES_rank : Cond.code y_ES_rank b_ES_rank 2 (some .int) ∈ zws := zmem 317 (by decide +kernel) (by decide +kernel)
theorem wi_ES_rank : Cond.instanceMethod y_ES_rank ∈ zws := zmem 315 (by decide +kernel) (by decide +kernel)
theorem wc_Gr_count : Cond.code y_Gr_count b_Gr_count 1 (some .int) ∈ zws := zmem 321 (by decide +kernel) (by decide +kernel)
theorem wi_Gr_count : Cond.instanceMethod y_Gr_count ∈ zws := zmem 319 (by decide +kernel) (by decide +kernel)
theorem wc_Gr_there : Cond.code y_Gr_there b_Gr_there 3 (some .int) ∈ zws := zmem 325 (by decide +kernel) (by decide +kernel)
theorem wi_Gr_there : Cond.instanceMethod y_Gr_there ∈ zws := zmem 323 (by decide +kernel) (by decide +kernel)
theorem wc_In_bitCount : Cond.code y_In_bitCount b_In_bitCount 1 (some .int) ∈ zws := zmem 328 (by decide +kernel) (by decide +kernel)
theorem wst_In_bitCount : Cond.static y_In_bitCount ∈ zws := zmem 327 (by decide +kernel) (by decide +kernel)
theorem wc_Rw_count : Cond.code y_Rw_count b_Rw_count 1 (some .int) ∈ zws := zmem 335 (by decide +kernel) (by decide +kernel)
theorem wi_Rw_count : Cond.instanceMethod y_Rw_count ∈ zws := zmem 333 (by decide +kernel) (by decide +kernel)
theorem wc_Me_measureShares : Cond.code y_Me_measureShares b_Me_measureShares 4 none ∈ zws := zmem 339 (by decide +kernel) (by decide +kernel)
theorem wi_Me_measureShares : Cond.instanceMethod y_Me_measureShares ∈ zws := zmem 337 (by decide +kernel) (by decide +kernel)
theorem wc_Me_shareSum : Cond.code y_Me_shareSum b_Me_shareSum 11 (some .long) ∈ zws := zmem 344 (by decide +kernel) (by decide +kernel)
theorem wi_Me_shareSum : Cond.instanceMethod y_Me_shareSum ∈ zws := zmem 342 (by decide +kernel) (by decide +kernel)
theorem wc_Gr_columnsOf : Cond.code y_Gr_columnsOf b_Gr_columnsOf 4 (some .int) ∈ zws := zmem 348 (by decide +kernel) (by decide +kernel)
theorem wi_Gr_columnsOf : Cond.instanceMethod y_Gr_columnsOf ∈ zws := zmem 346 (by decide +kernel) (by decide +kernel)
theorem wc_Me_ordersAround : Cond.code y_Me_ordersAround b_Me_ordersAround 3 (some .long) ∈ zws := zmem 352 (by decide +kernel) (by decide +kernel)
theorem wst_Me_ordersAround : Cond.static y_Me_ordersAround ∈ zws := zmem 351 (by decide +kernel) (by decide +kernel)
theorem wc_ES_factorial : Cond.code y_ES_factorial b_ES_factorial 4 (some .long) ∈ zws := zmem 355 (by decide +kernel) (by decide +kernel)
theorem wst_ES_factorial : Cond.static y_ES_factorial ∈ zws := zmem 354 (by decide +kernel) (by decide +kernel)
theorem wc_Me_brought : Cond.code y_Me_brought b_Me_brought 3 (some .long) ∈ zws := zmem 359 (by decide +kernel) (by decide +kernel)
theorem wi_Me_brought : Cond.instanceMethod y_Me_brought ∈ zws := zmem 358 (by decide +kernel) (by decide +kernel)
theorem wc_Me_total : Cond.code y_Me_total b_Me_total 5 (some .long) ∈ zws := zmem 363 (by decide +kernel) (by decide +kernel)
theorem wi_Me_total : Cond.instanceMethod y_Me_total ∈ zws := zmem 361 (by decide +kernel) (by decide +kernel)
theorem wc_Me_mix : Cond.code y_Me_mix b_Me_mix 5 none ∈ zws := zmem 369 (by decide +kernel) (by decide +kernel)
theorem wi_Me_mix : Cond.instanceMethod y_Me_mix ∈ zws := zmem 368 (by decide +kernel) (by decide +kernel)
theorem wc_Me_groupAtPlace : Cond.code y_Me_groupAtPlace b_Me_groupAtPlace 4 (some .int) ∈ zws := zmem 377 (by decide +kernel) (by decide +kernel)
theorem wi_Me_groupAtPlace : Cond.instanceMethod y_Me_groupAtPlace ∈ zws := zmem 375 (by decide +kernel) (by decide +kernel)
theorem wc_Me_countAhead : Cond.code y_Me_countAhead b_Me_countAhead 7 (some .int) ∈ zws := zmem 381 (by decide +kernel) (by decide +kernel)
theorem wi_Me_countAhead : Cond.instanceMethod y_Me_countAhead ∈ zws := zmem 380 (by decide +kernel) (by decide +kernel)
theorem wc_ES_bar : Cond.code y_ES_bar b_ES_bar 3 (some .int) ∈ zws := zmem 385 (by decide +kernel) (by decide +kernel)
theorem wi_ES_bar : Cond.instanceMethod y_ES_bar ∈ zws := zmem 383 (by decide +kernel) (by decide +kernel)
theorem wc_Se_setBarred : Cond.code y_Se_setBarred b_Se_setBarred 4 (some .boolean) ∈ zws := zmem 389 (by decide +kernel) (by decide +kernel)
theorem wi_Se_setBarred : Cond.instanceMethod y_Se_setBarred ∈ zws := zmem 387 (by decide +kernel) (by decide +kernel)
theorem wc_ES_nearest : Cond.code y_ES_nearest b_ES_nearest 2 (some .int) ∈ zws := zmem 393 (by decide +kernel) (by decide +kernel)
theorem wi_ES_nearest : Cond.instanceMethod y_ES_nearest ∈ zws := zmem 391 (by decide +kernel) (by decide +kernel)
theorem wc_Se_find : Cond.code y_Se_find b_Se_find 3 (some .boolean) ∈ zws := zmem 397 (by decide +kernel) (by decide +kernel)
theorem wi_Se_find : Cond.instanceMethod y_Se_find ∈ zws := zmem 395 (by decide +kernel) (by decide +kernel)
theorem wc_Se_gatherChoices : Cond.code y_Se_gatherChoices b_Se_gatherChoices 3 none ∈ zws := zmem 401 (by decide +kernel) (by decide +kernel)
theorem wi_Se_gatherChoices : Cond.instanceMethod y_Se_gatherChoices ∈ zws := zmem 400 (by decide +kernel) (by decide +kernel)
theorem wc_Se_addChoice : Cond.code y_Se_addChoice b_Se_addChoice 8 none ∈ zws := zmem 406 (by decide +kernel) (by decide +kernel)
theorem wi_Se_addChoice : Cond.instanceMethod y_Se_addChoice ∈ zws := zmem 405 (by decide +kernel) (by decide +kernel)
theorem wc_Se_open : Cond.code y_Se_open b_Se_open 2 none ∈ zws := zmem 411 (by decide +kernel) (by decide +kernel)
theorem wi_Se_open : Cond.instanceMethod y_Se_open ∈ zws := zmem 410 (by decide +kernel) (by decide +kernel)
theorem wc_Se_visit : Cond.code y_Se_visit b_Se_visit 3 none ∈ zws := zmem 415 (by decide +kernel) (by decide +kernel)
theorem wi_Se_visit : Cond.instanceMethod y_Se_visit ∈ zws := zmem 414 (by decide +kernel) (by decide +kernel)
theorem wc_Ln_boundWithin : Cond.code y_Ln_boundWithin b_Ln_boundWithin 5 (some .int) ∈ zws := zmem 419 (by decide +kernel) (by decide +kernel)
theorem wi_Ln_boundWithin : Cond.instanceMethod y_Ln_boundWithin ∈ zws := zmem 417 (by decide +kernel) (by decide +kernel)
theorem wc_Ln_peakOf : Cond.code y_Ln_peakOf b_Ln_peakOf 5 (some .int) ∈ zws := zmem 423 (by decide +kernel) (by decide +kernel)
theorem wi_Ln_peakOf : Cond.instanceMethod y_Ln_peakOf ∈ zws := zmem 422 (by decide +kernel) (by decide +kernel)
theorem wc_Se_settle : Cond.code y_Se_settle b_Se_settle 5 none ∈ zws := zmem 428 (by decide +kernel) (by decide +kernel)
theorem wi_Se_settle : Cond.instanceMethod y_Se_settle ∈ zws := zmem 427 (by decide +kernel) (by decide +kernel)
theorem wc_Se_costOf : Cond.code y_Se_costOf b_Se_costOf 4 (some .int) ∈ zws := zmem 432 (by decide +kernel) (by decide +kernel)
theorem wi_Se_costOf : Cond.instanceMethod y_Se_costOf ∈ zws := zmem 431 (by decide +kernel) (by decide +kernel)
theorem wc_Se_keep : Cond.code y_Se_keep b_Se_keep 3 none ∈ zws := zmem 439 (by decide +kernel) (by decide +kernel)
theorem wi_Se_keep : Cond.instanceMethod y_Se_keep ∈ zws := zmem 438 (by decide +kernel) (by decide +kernel)
theorem wc_Se_differing : Cond.code y_Se_differing b_Se_differing 1 (some .int) ∈ zws := zmem 443 (by decide +kernel) (by decide +kernel)
theorem wi_Se_differing : Cond.instanceMethod y_Se_differing ∈ zws := zmem 441 (by decide +kernel) (by decide +kernel)
theorem wc_ES_nearestAt : Cond.code y_ES_nearestAt b_ES_nearestAt 3 (some .long) ∈ zws := zmem 447 (by decide +kernel) (by decide +kernel)
theorem wi_ES_nearestAt : Cond.instanceMethod y_ES_nearestAt ∈ zws := zmem 445 (by decide +kernel) (by decide +kernel)
theorem wc_Se_foundIn : Cond.code y_Se_foundIn b_Se_foundIn 2 (some .int) ∈ zws := zmem 451 (by decide +kernel) (by decide +kernel)
theorem wi_Se_foundIn : Cond.instanceMethod y_Se_foundIn ∈ zws := zmem 449 (by decide +kernel) (by decide +kernel)
theorem wc_ES_value : Cond.code y_ES_value b_ES_value 3 (some .long) ∈ zws := zmem 462 (by decide +kernel) (by decide +kernel)
theorem wi_ES_value : Cond.instanceMethod y_ES_value ∈ zws := zmem 460 (by decide +kernel) (by decide +kernel)
theorem wc_ES_isPart : Cond.code y_ES_isPart b_ES_isPart 1 (some .boolean) ∈ zws := zmem 465 (by decide +kernel) (by decide +kernel)
theorem wst_ES_isPart : Cond.static y_ES_isPart ∈ zws := zmem 464 (by decide +kernel) (by decide +kernel)
theorem wc_ES_told : Cond.code y_ES_told b_ES_told 7 (some .long) ∈ zws := zmem 469 (by decide +kernel) (by decide +kernel)
theorem wst_ES_told : Cond.static y_ES_told ∈ zws := zmem 468 (by decide +kernel) (by decide +kernel)
theorem wc_ES_commonDivisor : Cond.code y_ES_commonDivisor b_ES_commonDivisor 11 (some .long) ∈ zws := zmem 539 (by decide +kernel) (by decide +kernel)
theorem wst_ES_commonDivisor : Cond.static y_ES_commonDivisor ∈ zws := zmem 538 (by decide +kernel) (by decide +kernel)
theorem wc_ES_share : Cond.code y_ES_share b_ES_share 6 (some .long) ∈ zws := zmem 546 (by decide +kernel) (by decide +kernel)
theorem wi_ES_share : Cond.instanceMethod y_ES_share ∈ zws := zmem 544 (by decide +kernel) (by decide +kernel)
theorem wc_ES_isManner : Cond.code y_ES_isManner b_ES_isManner 1 (some .boolean) ∈ zws := zmem 549 (by decide +kernel) (by decide +kernel)
theorem wst_ES_isManner : Cond.static y_ES_isManner ∈ zws := zmem 548 (by decide +kernel) (by decide +kernel)
theorem wc_Gr_ofColumn : Cond.code y_Gr_ofColumn b_Gr_ofColumn 2 (some .int) ∈ zws := zmem 553 (by decide +kernel) (by decide +kernel)
theorem wi_Gr_ofColumn : Cond.instanceMethod y_Gr_ofColumn ∈ zws := zmem 551 (by decide +kernel) (by decide +kernel)
theorem wc_Me_shareWays : Cond.code y_Me_shareWays b_Me_shareWays 3 (some .long) ∈ zws := zmem 558 (by decide +kernel) (by decide +kernel)
theorem wi_Me_shareWays : Cond.instanceMethod y_Me_shareWays ∈ zws := zmem 556 (by decide +kernel) (by decide +kernel)
theorem wc_ES_both : Cond.code y_ES_both b_ES_both 6 (some .long) ∈ zws := zmem 566 (by decide +kernel) (by decide +kernel)
theorem wi_ES_both : Cond.instanceMethod y_ES_both ∈ zws := zmem 564 (by decide +kernel) (by decide +kernel)
theorem wc_Me_togetherSum : Cond.code y_Me_togetherSum b_Me_togetherSum 13 (some .long) ∈ zws := zmem 570 (by decide +kernel) (by decide +kernel)
theorem wi_Me_togetherSum : Cond.instanceMethod y_Me_togetherSum ∈ zws := zmem 568 (by decide +kernel) (by decide +kernel)
theorem wc_Me_togetherWays : Cond.code y_Me_togetherWays b_Me_togetherWays 1 (some .long) ∈ zws := zmem 574 (by decide +kernel) (by decide +kernel)
theorem wi_Me_togetherWays : Cond.instanceMethod y_Me_togetherWays ∈ zws := zmem 572 (by decide +kernel) (by decide +kernel)
theorem wc_ES_drawn : Cond.code y_ES_drawn b_ES_drawn 7 (some .long) ∈ zws := zmem 581 (by decide +kernel) (by decide +kernel)
theorem wi_ES_drawn : Cond.instanceMethod y_ES_drawn ∈ zws := zmem 579 (by decide +kernel) (by decide +kernel)
theorem wc_Me_drawnSum : Cond.code y_Me_drawnSum b_Me_drawnSum 8 (some .long) ∈ zws := zmem 585 (by decide +kernel) (by decide +kernel)
theorem wi_Me_drawnSum : Cond.instanceMethod y_Me_drawnSum ∈ zws := zmem 583 (by decide +kernel) (by decide +kernel)
theorem wc_Or_start : Cond.code y_Or_start b_Or_start 2 none ∈ zws := zmem 589 (by decide +kernel) (by decide +kernel)
theorem wi_Or_start : Cond.instanceMethod y_Or_start ∈ zws := zmem 587 (by decide +kernel) (by decide +kernel)
theorem wc_Or_drawNext : Cond.code y_Or_drawNext b_Or_drawNext 4 none ∈ zws := zmem 593 (by decide +kernel) (by decide +kernel)
theorem wi_Or_drawNext : Cond.instanceMethod y_Or_drawNext ∈ zws := zmem 591 (by decide +kernel) (by decide +kernel)
theorem wc_Or_lineUp : Cond.code y_Or_lineUp b_Or_lineUp 3 none ∈ zws := zmem 597 (by decide +kernel) (by decide +kernel)
theorem wi_Or_lineUp : Cond.instanceMethod y_Or_lineUp ∈ zws := zmem 596 (by decide +kernel) (by decide +kernel)
theorem wc_Or_below : Cond.code y_Or_below b_Or_below 2 (some .int) ∈ zws := zmem 602 (by decide +kernel) (by decide +kernel)
theorem wi_Or_below : Cond.instanceMethod y_Or_below ∈ zws := zmem 601 (by decide +kernel) (by decide +kernel)
theorem wc_Or_groupsBefore : Cond.code y_Or_groupsBefore b_Or_groupsBefore 4 (some .int) ∈ zws := zmem 607 (by decide +kernel) (by decide +kernel)
theorem wi_Or_groupsBefore : Cond.instanceMethod y_Or_groupsBefore ∈ zws := zmem 605 (by decide +kernel) (by decide +kernel)
theorem wc_ES_partial : Cond.code y_ES_partial b_ES_partial 4 (some .long) ∈ zws := zmem 614 (by decide +kernel) (by decide +kernel)
theorem wi_ES_partial : Cond.instanceMethod y_ES_partial ∈ zws := zmem 612 (by decide +kernel) (by decide +kernel)
theorem wc_Me_replacedSum : Cond.code y_Me_replacedSum b_Me_replacedSum 6 (some .long) ∈ zws := zmem 618 (by decide +kernel) (by decide +kernel)
theorem wi_Me_replacedSum : Cond.instanceMethod y_Me_replacedSum ∈ zws := zmem 616 (by decide +kernel) (by decide +kernel)
theorem wc_Me_sumWith : Cond.code y_Me_sumWith b_Me_sumWith 5 (some .long) ∈ zws := zmem 622 (by decide +kernel) (by decide +kernel)
theorem wi_Me_sumWith : Cond.instanceMethod y_Me_sumWith ∈ zws := zmem 621 (by decide +kernel) (by decide +kernel)
theorem wc_ES_worth : Cond.code y_ES_worth b_ES_worth 3 (some .long) ∈ zws := zmem 629 (by decide +kernel) (by decide +kernel)
theorem wi_ES_worth : Cond.instanceMethod y_ES_worth ∈ zws := zmem 627 (by decide +kernel) (by decide +kernel)
theorem wc_Me_changeSum : Cond.code y_Me_changeSum b_Me_changeSum 11 (some .long) ∈ zws := zmem 633 (by decide +kernel) (by decide +kernel)
theorem wi_Me_changeSum : Cond.instanceMethod y_Me_changeSum ∈ zws := zmem 631 (by decide +kernel) (by decide +kernel)
theorem wc_Md_init : Cond.code y_Md_init b_Md_init 2 none ∈ zws := zmem 638 (by decide +kernel) (by decide +kernel)
theorem wi_Md_init : Cond.instanceMethod y_Md_init ∈ zws := zmem 637 (by decide +kernel) (by decide +kernel)
theorem wc_Md_clear : Cond.code y_Md_clear b_Md_clear 3 (some .int) ∈ zws := zmem 643 (by decide +kernel) (by decide +kernel)
theorem wi_Md_clear : Cond.instanceMethod y_Md_clear ∈ zws := zmem 641 (by decide +kernel) (by decide +kernel)
theorem wc_Md_thrown : Cond.code y_Md_thrown b_Md_thrown 1 (some .int) ∈ zws := zmem 723 (by decide +kernel) (by decide +kernel)
theorem wi_Md_thrown : Cond.instanceMethod y_Md_thrown ∈ zws := zmem 721 (by decide +kernel) (by decide +kernel)
theorem wc_Md_leaf : Cond.code y_Md_leaf b_Md_leaf 2 (some .int) ∈ zws := zmem 727 (by decide +kernel) (by decide +kernel)
theorem wi_Md_leaf : Cond.instanceMethod y_Md_leaf ∈ zws := zmem 725 (by decide +kernel) (by decide +kernel)
theorem wc_Md_in : Cond.code y_Md_in b_Md_in 3 (some .boolean) ∈ zws := zmem 730 (by decide +kernel) (by decide +kernel)
theorem wst_Md_in : Cond.static y_Md_in ∈ zws := zmem 729 (by decide +kernel) (by decide +kernel)
theorem wc_Md_split : Cond.code y_Md_split b_Md_split 5 (some .int) ∈ zws := zmem 734 (by decide +kernel) (by decide +kernel)
theorem wi_Md_split : Cond.instanceMethod y_Md_split ∈ zws := zmem 732 (by decide +kernel) (by decide +kernel)
theorem wc_Md_isColumn : Cond.code y_Md_isColumn b_Md_isColumn 2 (some .boolean) ∈ zws := zmem 738 (by decide +kernel) (by decide +kernel)
theorem wi_Md_isColumn : Cond.instanceMethod y_Md_isColumn ∈ zws := zmem 737 (by decide +kernel) (by decide +kernel)
theorem wc_Md_root : Cond.code y_Md_root b_Md_root 2 (some .int) ∈ zws := zmem 742 (by decide +kernel) (by decide +kernel)
theorem wi_Md_root : Cond.instanceMethod y_Md_root ∈ zws := zmem 740 (by decide +kernel) (by decide +kernel)
theorem wc_Md_weight : Cond.code y_Md_weight b_Md_weight 3 (some .int) ∈ zws := zmem 746 (by decide +kernel) (by decide +kernel)
theorem wi_Md_weight : Cond.instanceMethod y_Md_weight ∈ zws := zmem 744 (by decide +kernel) (by decide +kernel)
theorem wc_Md_background : Cond.code y_Md_background b_Md_background 2 (some .int) ∈ zws := zmem 751 (by decide +kernel) (by decide +kernel)
theorem wi_Md_background : Cond.instanceMethod y_Md_background ∈ zws := zmem 749 (by decide +kernel) (by decide +kernel)
theorem wc_Md_item : Cond.code y_Md_item b_Md_item 4 (some .int) ∈ zws := zmem 755 (by decide +kernel) (by decide +kernel)
theorem wi_Md_item : Cond.instanceMethod y_Md_item ∈ zws := zmem 753 (by decide +kernel) (by decide +kernel)
theorem wc_Md_group : Cond.code y_Md_group b_Md_group 4 (some .int) ∈ zws := zmem 759 (by decide +kernel) (by decide +kernel)
theorem wi_Md_group : Cond.instanceMethod y_Md_group ∈ zws := zmem 757 (by decide +kernel) (by decide +kernel)
theorem wc_Md_answer : Cond.code y_Md_answer b_Md_answer 2 (some .long) ∈ zws := zmem 763 (by decide +kernel) (by decide +kernel)
theorem wi_Md_answer : Cond.instanceMethod y_Md_answer ∈ zws := zmem 761 (by decide +kernel) (by decide +kernel)
theorem wc_Md_take : Cond.code y_Md_take b_Md_take 3 none ∈ zws := zmem 768 (by decide +kernel) (by decide +kernel)
theorem wi_Md_take : Cond.instanceMethod y_Md_take ∈ zws := zmem 767 (by decide +kernel) (by decide +kernel)
theorem wc_Md_answerNow : Cond.code y_Md_answerNow b_Md_answerNow 5 (some .long) ∈ zws := zmem 772 (by decide +kernel) (by decide +kernel)
theorem wi_Md_answerNow : Cond.instanceMethod y_Md_answerNow ∈ zws := zmem 771 (by decide +kernel) (by decide +kernel)
theorem wc_Md_value : Cond.code y_Md_value b_Md_value 3 (some .long) ∈ zws := zmem 776 (by decide +kernel) (by decide +kernel)
theorem wi_Md_value : Cond.instanceMethod y_Md_value ∈ zws := zmem 774 (by decide +kernel) (by decide +kernel)
theorem wc_Md_throwsNow : Cond.code y_Md_throwsNow b_Md_throwsNow 1 (some .boolean) ∈ zws := zmem 780 (by decide +kernel) (by decide +kernel)
theorem wi_Md_throwsNow : Cond.instanceMethod y_Md_throwsNow ∈ zws := zmem 779 (by decide +kernel) (by decide +kernel)
theorem wc_Md_sumAll : Cond.code y_Md_sumAll b_Md_sumAll 4 none ∈ zws := zmem 784 (by decide +kernel) (by decide +kernel)
theorem wi_Md_sumAll : Cond.instanceMethod y_Md_sumAll ∈ zws := zmem 783 (by decide +kernel) (by decide +kernel)
theorem wc_Md_part : Cond.code y_Md_part b_Md_part 11 (some .long) ∈ zws := zmem 787 (by decide +kernel) (by decide +kernel)
theorem wst_Md_part : Cond.static y_Md_part ∈ zws := zmem 786 (by decide +kernel) (by decide +kernel)
theorem wc_Md_share : Cond.code y_Md_share b_Md_share 7 (some .long) ∈ zws := zmem 791 (by decide +kernel) (by decide +kernel)
theorem wi_Md_share : Cond.instanceMethod y_Md_share ∈ zws := zmem 789 (by decide +kernel) (by decide +kernel)
theorem wc_Md_groupBits : Cond.code y_Md_groupBits b_Md_groupBits 4 (some .int) ∈ zws := zmem 795 (by decide +kernel) (by decide +kernel)
theorem wi_Md_groupBits : Cond.instanceMethod y_Md_groupBits ∈ zws := zmem 794 (by decide +kernel) (by decide +kernel)
theorem wc_Md_shareSum : Cond.code y_Md_shareSum b_Md_shareSum 6 (some .long) ∈ zws := zmem 799 (by decide +kernel) (by decide +kernel)
theorem wi_Md_shareSum : Cond.instanceMethod y_Md_shareSum ∈ zws := zmem 798 (by decide +kernel) (by decide +kernel)
theorem wc_Md_listParts : Cond.code y_Md_listParts b_Md_listParts 5 none ∈ zws := zmem 803 (by decide +kernel) (by decide +kernel)
theorem wi_Md_listParts : Cond.instanceMethod y_Md_listParts ∈ zws := zmem 802 (by decide +kernel) (by decide +kernel)
theorem wc_Md_orders : Cond.code y_Md_orders b_Md_orders 3 (some .int) ∈ zws := zmem 807 (by decide +kernel) (by decide +kernel)
theorem wi_Md_orders : Cond.instanceMethod y_Md_orders ∈ zws := zmem 806 (by decide +kernel) (by decide +kernel)
theorem wc_Md_layOrder : Cond.code y_Md_layOrder b_Md_layOrder 7 none ∈ zws := zmem 811 (by decide +kernel) (by decide +kernel)
theorem wi_Md_layOrder : Cond.instanceMethod y_Md_layOrder ∈ zws := zmem 810 (by decide +kernel) (by decide +kernel)
theorem wc_Md_before : Cond.code y_Md_before b_Md_before 4 (some .int) ∈ zws := zmem 815 (by decide +kernel) (by decide +kernel)
theorem wi_Md_before : Cond.instanceMethod y_Md_before ∈ zws := zmem 814 (by decide +kernel) (by decide +kernel)
theorem wc_Md_setSum : Cond.code y_Md_setSum b_Md_setSum 7 (some .long) ∈ zws := zmem 819 (by decide +kernel) (by decide +kernel)
theorem wi_Md_setSum : Cond.instanceMethod y_Md_setSum ∈ zws := zmem 818 (by decide +kernel) (by decide +kernel)
theorem wc_Md_both : Cond.code y_Md_both b_Md_both 10 (some .long) ∈ zws := zmem 823 (by decide +kernel) (by decide +kernel)
theorem wi_Md_both : Cond.instanceMethod y_Md_both ∈ zws := zmem 821 (by decide +kernel) (by decide +kernel)
theorem wc_Md_drawn : Cond.code y_Md_drawn b_Md_drawn 13 (some .long) ∈ zws := zmem 827 (by decide +kernel) (by decide +kernel)
theorem wi_Md_drawn : Cond.instanceMethod y_Md_drawn ∈ zws := zmem 825 (by decide +kernel) (by decide +kernel)
theorem wc_Md_partial : Cond.code y_Md_partial b_Md_partial 7 (some .long) ∈ zws := zmem 832 (by decide +kernel) (by decide +kernel)
theorem wi_Md_partial : Cond.instanceMethod y_Md_partial ∈ zws := zmem 830 (by decide +kernel) (by decide +kernel)
theorem wc_Md_worth : Cond.code y_Md_worth b_Md_worth 11 (some .long) ∈ zws := zmem 836 (by decide +kernel) (by decide +kernel)
theorem wi_Md_worth : Cond.instanceMethod y_Md_worth ∈ zws := zmem 834 (by decide +kernel) (by decide +kernel)
theorem wc_Md_rank : Cond.code y_Md_rank b_Md_rank 7 (some .int) ∈ zws := zmem 840 (by decide +kernel) (by decide +kernel)
theorem wi_Md_rank : Cond.instanceMethod y_Md_rank ∈ zws := zmem 838 (by decide +kernel) (by decide +kernel)
theorem wc_Md_findSizes : Cond.code y_Md_findSizes b_Md_findSizes 4 none ∈ zws := zmem 844 (by decide +kernel) (by decide +kernel)
theorem wi_Md_findSizes : Cond.instanceMethod y_Md_findSizes ∈ zws := zmem 843 (by decide +kernel) (by decide +kernel)
theorem wc_Md_bar : Cond.code y_Md_bar b_Md_bar 4 (some .int) ∈ zws := zmem 848 (by decide +kernel) (by decide +kernel)
theorem wi_Md_bar : Cond.instanceMethod y_Md_bar ∈ zws := zmem 846 (by decide +kernel) (by decide +kernel)
theorem wc_Md_nearest : Cond.code y_Md_nearest b_Md_nearest 2 (some .int) ∈ zws := zmem 852 (by decide +kernel) (by decide +kernel)
theorem wi_Md_nearest : Cond.instanceMethod y_Md_nearest ∈ zws := zmem 850 (by decide +kernel) (by decide +kernel)
theorem wc_Md_findNearest : Cond.code y_Md_findNearest b_Md_findNearest 5 (some .boolean) ∈ zws := zmem 856 (by decide +kernel) (by decide +kernel)
theorem wi_Md_findNearest : Cond.instanceMethod y_Md_findNearest ∈ zws := zmem 855 (by decide +kernel) (by decide +kernel)
theorem wc_Md_hold : Cond.code y_Md_hold b_Md_hold 7 none ∈ zws := zmem 860 (by decide +kernel) (by decide +kernel)
theorem wi_Md_hold : Cond.instanceMethod y_Md_hold ∈ zws := zmem 859 (by decide +kernel) (by decide +kernel)
theorem wc_Md_next : Cond.code y_Md_next b_Md_next 5 (some .int) ∈ zws := zmem 864 (by decide +kernel) (by decide +kernel)
theorem wi_Md_next : Cond.instanceMethod y_Md_next ∈ zws := zmem 863 (by decide +kernel) (by decide +kernel)
theorem wc_Md_nearestAt : Cond.code y_Md_nearestAt b_Md_nearestAt 3 (some .long) ∈ zws := zmem 868 (by decide +kernel) (by decide +kernel)
theorem wi_Md_nearestAt : Cond.instanceMethod y_Md_nearestAt ∈ zws := zmem 866 (by decide +kernel) (by decide +kernel)
theorem wini_Ln : Cond.initialized R_Ln ∈ zws := zmem 3 (by decide +kernel) (by decide +kernel)
theorem wini_Rw : Cond.initialized R_Rw ∈ zws := zmem 4 (by decide +kernel) (by decide +kernel)
theorem wini_Gr : Cond.initialized R_Gr ∈ zws := zmem 5 (by decide +kernel) (by decide +kernel)
theorem wini_Or : Cond.initialized R_Or ∈ zws := zmem 7 (by decide +kernel) (by decide +kernel)
theorem wini_Me : Cond.initialized R_Me ∈ zws := zmem 6 (by decide +kernel) (by decide +kernel)
theorem wini_Se : Cond.initialized R_Se ∈ zws := zmem 8 (by decide +kernel) (by decide +kernel)
theorem wini_ES : Cond.initialized R_ES ∈ zws := zmem 1 (by decide +kernel) (by decide +kernel)
theorem wini_Md : Cond.initialized R_Md ∈ zws := zmem 9 (by decide +kernel) (by decide +kernel)
theorem wini_In : Cond.initialized R_In ∈ zws := zmem 14 (by decide +kernel) (by decide +kernel)
theorem in_Ln : ∀ w ∈ u_ws R_Ln F_Ln 9, w ∈ zws := fun w h => by
  obtain ⟨k, hk, rfl⟩ := List.mem_map.mp h
  have hk := List.mem_range.mp hk
  match k, hk with
  | 0, _ => exact zmem 44 (by decide +kernel) (by decide +kernel)
  | 1, _ => exact zmem 46 (by decide +kernel) (by decide +kernel)
  | 2, _ => exact zmem 48 (by decide +kernel) (by decide +kernel)
  | 3, _ => exact zmem 50 (by decide +kernel) (by decide +kernel)
  | 4, _ => exact zmem 52 (by decide +kernel) (by decide +kernel)
  | 5, _ => exact zmem 54 (by decide +kernel) (by decide +kernel)
  | 6, _ => exact zmem 56 (by decide +kernel) (by decide +kernel)
  | 7, _ => exact zmem 58 (by decide +kernel) (by decide +kernel)
  | 8, _ => exact zmem 60 (by decide +kernel) (by decide +kernel)
  | k + 9, hk => exact absurd hk (by omega)
theorem wf_Ln_9 : Cond.fieldLink R_Ln 9 "ExactShares2$Learner" "columnOf" "[I" ∈ zws := zmem 35 (by decide +kernel) (by decide +kernel)
theorem wf_Ln_15 : Cond.fieldLink R_Ln 15 "ExactShares2$Learner" "numberOf" "[I" ∈ zws := zmem 36 (by decide +kernel) (by decide +kernel)
theorem wf_Ln_18 : Cond.fieldLink R_Ln 18 "ExactShares2$Learner" "lowOf" "[I" ∈ zws := zmem 37 (by decide +kernel) (by decide +kernel)
theorem wf_Ln_21 : Cond.fieldLink R_Ln 21 "ExactShares2$Learner" "highOf" "[I" ∈ zws := zmem 38 (by decide +kernel) (by decide +kernel)
theorem wf_Ln_24 : Cond.fieldLink R_Ln 24 "ExactShares2$Learner" "peaks" "[I" ∈ zws := zmem 39 (by decide +kernel) (by decide +kernel)
theorem wf_Ln_27 : Cond.fieldLink R_Ln 27 "ExactShares2$Learner" "roots" "[I" ∈ zws := zmem 40 (by decide +kernel) (by decide +kernel)
theorem wf_Ln_30 : Cond.fieldLink R_Ln 30 "ExactShares2$Learner" "weights" "[I" ∈ zws := zmem 41 (by decide +kernel) (by decide +kernel)
theorem wf_Ln_33 : Cond.fieldLink R_Ln 33 "ExactShares2$Learner" "nodeCount" "I" ∈ zws := zmem 42 (by decide +kernel) (by decide +kernel)
theorem wf_Ln_37 : Cond.fieldLink R_Ln 37 "ExactShares2$Learner" "rootCount" "I" ∈ zws := zmem 43 (by decide +kernel) (by decide +kernel)
theorem in_Rw : ∀ w ∈ u_ws R_Rw F_Rw 3, w ∈ zws := fun w h => by
  obtain ⟨k, hk, rfl⟩ := List.mem_map.mp h
  have hk := List.mem_range.mp hk
  match k, hk with
  | 0, _ => exact zmem 75 (by decide +kernel) (by decide +kernel)
  | 1, _ => exact zmem 77 (by decide +kernel) (by decide +kernel)
  | 2, _ => exact zmem 79 (by decide +kernel) (by decide +kernel)
  | k + 3, hk => exact absurd hk (by omega)
theorem wf_Rw_9 : Cond.fieldLink R_Rw 9 "ExactShares2$Rows" "looked" "[I" ∈ zws := zmem 72 (by decide +kernel) (by decide +kernel)
theorem wf_Rw_17 : Cond.fieldLink R_Rw 17 "ExactShares2$Rows" "behind" "[[I" ∈ zws := zmem 73 (by decide +kernel) (by decide +kernel)
theorem wf_Rw_20 : Cond.fieldLink R_Rw 20 "ExactShares2$Rows" "count" "I" ∈ zws := zmem 74 (by decide +kernel) (by decide +kernel)
theorem in_Gr : ∀ w ∈ u_ws R_Gr F_Gr 2, w ∈ zws := fun w h => by
  obtain ⟨k, hk, rfl⟩ := List.mem_map.mp h
  have hk := List.mem_range.mp hk
  match k, hk with
  | 0, _ => exact zmem 94 (by decide +kernel) (by decide +kernel)
  | 1, _ => exact zmem 96 (by decide +kernel) (by decide +kernel)
  | k + 2, hk => exact absurd hk (by omega)
theorem wf_Gr_15 : Cond.fieldLink R_Gr 15 "ExactShares2$Groups" "columns" "I" ∈ zws := zmem 92 (by decide +kernel) (by decide +kernel)
theorem wf_Gr_9 : Cond.fieldLink R_Gr 9 "ExactShares2$Groups" "groupOf" "[I" ∈ zws := zmem 93 (by decide +kernel) (by decide +kernel)
theorem in_Or : ∀ w ∈ u_ws R_Or F_Or 4, w ∈ zws := fun w h => by
  obtain ⟨k, hk, rfl⟩ := List.mem_map.mp h
  have hk := List.mem_range.mp hk
  match k, hk with
  | 0, _ => exact zmem 115 (by decide +kernel) (by decide +kernel)
  | 1, _ => exact zmem 117 (by decide +kernel) (by decide +kernel)
  | 2, _ => exact zmem 119 (by decide +kernel) (by decide +kernel)
  | 3, _ => exact zmem 121 (by decide +kernel) (by decide +kernel)
  | k + 4, hk => exact absurd hk (by omega)
theorem wf_Or_22 : Cond.fieldLink R_Or 22 "ExactShares2$Orders" "groups" "LExactShares2$Groups;" ∈ zws := zmem 111 (by decide +kernel) (by decide +kernel)
theorem wf_Or_9 : Cond.fieldLink R_Or 9 "ExactShares2$Orders" "order" "[I" ∈ zws := zmem 112 (by decide +kernel) (by decide +kernel)
theorem wf_Or_15 : Cond.fieldLink R_Or 15 "ExactShares2$Orders" "count" "I" ∈ zws := zmem 113 (by decide +kernel) (by decide +kernel)
theorem wf_Or_19 : Cond.fieldLink R_Or 19 "ExactShares2$Orders" "z" "I" ∈ zws := zmem 114 (by decide +kernel) (by decide +kernel)
theorem in_Me : ∀ w ∈ u_ws R_Me F_Me 6, w ∈ zws := fun w h => by
  obtain ⟨k, hk, rfl⟩ := List.mem_map.mp h
  have hk := List.mem_range.mp hk
  match k, hk with
  | 0, _ => exact zmem 131 (by decide +kernel) (by decide +kernel)
  | 1, _ => exact zmem 133 (by decide +kernel) (by decide +kernel)
  | 2, _ => exact zmem 135 (by decide +kernel) (by decide +kernel)
  | 3, _ => exact zmem 137 (by decide +kernel) (by decide +kernel)
  | 4, _ => exact zmem 139 (by decide +kernel) (by decide +kernel)
  | 5, _ => exact zmem 141 (by decide +kernel) (by decide +kernel)
  | k + 6, hk => exact absurd hk (by omega)
theorem wf_Me_19 : Cond.fieldLink R_Me 19 "ExactShares2$Means" "learner" "LExactShares2$Learner;" ∈ zws := zmem 125 (by decide +kernel) (by decide +kernel)
theorem wf_Me_23 : Cond.fieldLink R_Me 23 "ExactShares2$Means" "rows" "LExactShares2$Rows;" ∈ zws := zmem 126 (by decide +kernel) (by decide +kernel)
theorem wf_Me_27 : Cond.fieldLink R_Me 27 "ExactShares2$Means" "groups" "LExactShares2$Groups;" ∈ zws := zmem 127 (by decide +kernel) (by decide +kernel)
theorem wf_Me_36 : Cond.fieldLink R_Me 36 "ExactShares2$Means" "orders" "LExactShares2$Orders;" ∈ zws := zmem 128 (by decide +kernel) (by decide +kernel)
theorem wf_Me_9 : Cond.fieldLink R_Me 9 "ExactShares2$Means" "mixed" "[I" ∈ zws := zmem 129 (by decide +kernel) (by decide +kernel)
theorem wf_Me_15 : Cond.fieldLink R_Me 15 "ExactShares2$Means" "sizes" "[J" ∈ zws := zmem 130 (by decide +kernel) (by decide +kernel)
theorem in_Se : ∀ w ∈ u_ws R_Se F_Se 11, w ∈ zws := fun w h => by
  obtain ⟨k, hk, rfl⟩ := List.mem_map.mp h
  have hk := List.mem_range.mp hk
  match k, hk with
  | 0, _ => exact zmem 163 (by decide +kernel) (by decide +kernel)
  | 1, _ => exact zmem 165 (by decide +kernel) (by decide +kernel)
  | 2, _ => exact zmem 167 (by decide +kernel) (by decide +kernel)
  | 3, _ => exact zmem 169 (by decide +kernel) (by decide +kernel)
  | 4, _ => exact zmem 171 (by decide +kernel) (by decide +kernel)
  | 5, _ => exact zmem 173 (by decide +kernel) (by decide +kernel)
  | 6, _ => exact zmem 175 (by decide +kernel) (by decide +kernel)
  | 7, _ => exact zmem 177 (by decide +kernel) (by decide +kernel)
  | 8, _ => exact zmem 179 (by decide +kernel) (by decide +kernel)
  | 9, _ => exact zmem 181 (by decide +kernel) (by decide +kernel)
  | 10, _ => exact zmem 183 (by decide +kernel) (by decide +kernel)
  | k + 11, hk => exact absurd hk (by omega)
theorem wf_Se_41 : Cond.fieldLink R_Se 41 "ExactShares2$Search" "columns" "I" ∈ zws := zmem 152 (by decide +kernel) (by decide +kernel)
theorem wf_Se_44 : Cond.fieldLink R_Se 44 "ExactShares2$Search" "learner" "LExactShares2$Learner;" ∈ zws := zmem 153 (by decide +kernel) (by decide +kernel)
theorem wf_Se_48 : Cond.fieldLink R_Se 48 "ExactShares2$Search" "rows" "LExactShares2$Rows;" ∈ zws := zmem 154 (by decide +kernel) (by decide +kernel)
theorem wf_Se_9 : Cond.fieldLink R_Se 9 "ExactShares2$Search" "barred" "[Z" ∈ zws := zmem 155 (by decide +kernel) (by decide +kernel)
theorem wf_Se_17 : Cond.fieldLink R_Se 17 "ExactShares2$Search" "choices" "[[I" ∈ zws := zmem 156 (by decide +kernel) (by decide +kernel)
theorem wf_Se_20 : Cond.fieldLink R_Se 20 "ExactShares2$Search" "choiceCounts" "[I" ∈ zws := zmem 157 (by decide +kernel) (by decide +kernel)
theorem wf_Se_24 : Cond.fieldLink R_Se 24 "ExactShares2$Search" "least" "[I" ∈ zws := zmem 158 (by decide +kernel) (by decide +kernel)
theorem wf_Se_27 : Cond.fieldLink R_Se 27 "ExactShares2$Search" "most" "[I" ∈ zws := zmem 159 (by decide +kernel) (by decide +kernel)
theorem wf_Se_30 : Cond.fieldLink R_Se 30 "ExactShares2$Search" "best" "[I" ∈ zws := zmem 160 (by decide +kernel) (by decide +kernel)
theorem wf_Se_34 : Cond.fieldLink R_Se 34 "ExactShares2$Search" "bestCost" "I" ∈ zws := zmem 161 (by decide +kernel) (by decide +kernel)
theorem wf_Se_38 : Cond.fieldLink R_Se 38 "ExactShares2$Search" "wanted" "I" ∈ zws := zmem 162 (by decide +kernel) (by decide +kernel)
theorem in_ES : ∀ w ∈ u_ws R_ES F_ES 6, w ∈ zws := fun w h => by
  obtain ⟨k, hk, rfl⟩ := List.mem_map.mp h
  have hk := List.mem_range.mp hk
  match k, hk with
  | 0, _ => exact zmem 193 (by decide +kernel) (by decide +kernel)
  | 1, _ => exact zmem 195 (by decide +kernel) (by decide +kernel)
  | 2, _ => exact zmem 197 (by decide +kernel) (by decide +kernel)
  | 3, _ => exact zmem 199 (by decide +kernel) (by decide +kernel)
  | 4, _ => exact zmem 201 (by decide +kernel) (by decide +kernel)
  | 5, _ => exact zmem 203 (by decide +kernel) (by decide +kernel)
  | k + 6, hk => exact absurd hk (by omega)
theorem wf_ES_18 : Cond.fieldLink R_ES 18 "ExactShares2" "columns" "I" ∈ zws := zmem 187 (by decide +kernel) (by decide +kernel)
theorem wf_ES_25 : Cond.fieldLink R_ES 25 "ExactShares2" "learner" "LExactShares2$Learner;" ∈ zws := zmem 188 (by decide +kernel) (by decide +kernel)
theorem wf_ES_32 : Cond.fieldLink R_ES 32 "ExactShares2" "rows" "LExactShares2$Rows;" ∈ zws := zmem 189 (by decide +kernel) (by decide +kernel)
theorem wf_ES_41 : Cond.fieldLink R_ES 41 "ExactShares2" "groups" "LExactShares2$Groups;" ∈ zws := zmem 190 (by decide +kernel) (by decide +kernel)
theorem wf_ES_50 : Cond.fieldLink R_ES 50 "ExactShares2" "means" "LExactShares2$Means;" ∈ zws := zmem 191 (by decide +kernel) (by decide +kernel)
theorem wf_ES_59 : Cond.fieldLink R_ES 59 "ExactShares2" "search" "LExactShares2$Search;" ∈ zws := zmem 192 (by decide +kernel) (by decide +kernel)
theorem in_Md : ∀ w ∈ u_ws R_Md F_Md 25, w ∈ zws := fun w h => by
  obtain ⟨k, hk, rfl⟩ := List.mem_map.mp h
  have hk := List.mem_range.mp hk
  match k, hk with
  | 0, _ => exact zmem 669 (by decide +kernel) (by decide +kernel)
  | 1, _ => exact zmem 671 (by decide +kernel) (by decide +kernel)
  | 2, _ => exact zmem 673 (by decide +kernel) (by decide +kernel)
  | 3, _ => exact zmem 675 (by decide +kernel) (by decide +kernel)
  | 4, _ => exact zmem 677 (by decide +kernel) (by decide +kernel)
  | 5, _ => exact zmem 679 (by decide +kernel) (by decide +kernel)
  | 6, _ => exact zmem 681 (by decide +kernel) (by decide +kernel)
  | 7, _ => exact zmem 683 (by decide +kernel) (by decide +kernel)
  | 8, _ => exact zmem 685 (by decide +kernel) (by decide +kernel)
  | 9, _ => exact zmem 687 (by decide +kernel) (by decide +kernel)
  | 10, _ => exact zmem 689 (by decide +kernel) (by decide +kernel)
  | 11, _ => exact zmem 691 (by decide +kernel) (by decide +kernel)
  | 12, _ => exact zmem 693 (by decide +kernel) (by decide +kernel)
  | 13, _ => exact zmem 695 (by decide +kernel) (by decide +kernel)
  | 14, _ => exact zmem 697 (by decide +kernel) (by decide +kernel)
  | 15, _ => exact zmem 699 (by decide +kernel) (by decide +kernel)
  | 16, _ => exact zmem 701 (by decide +kernel) (by decide +kernel)
  | 17, _ => exact zmem 703 (by decide +kernel) (by decide +kernel)
  | 18, _ => exact zmem 705 (by decide +kernel) (by decide +kernel)
  | 19, _ => exact zmem 707 (by decide +kernel) (by decide +kernel)
  | 20, _ => exact zmem 709 (by decide +kernel) (by decide +kernel)
  | 21, _ => exact zmem 711 (by decide +kernel) (by decide +kernel)
  | 22, _ => exact zmem 713 (by decide +kernel) (by decide +kernel)
  | 23, _ => exact zmem 715 (by decide +kernel) (by decide +kernel)
  | 24, _ => exact zmem 717 (by decide +kernel) (by decide +kernel)
  | k + 25, hk => exact absurd hk (by omega)
theorem wf_Md_71 : Cond.fieldLink R_Md 71 "ExactShares2Model" "code" "I" ∈ zws := zmem 644 (by decide +kernel) (by decide +kernel)
theorem wf_Md_63 : Cond.fieldLink R_Md 63 "ExactShares2Model" "columns" "I" ∈ zws := zmem 645 (by decide +kernel) (by decide +kernel)
theorem wf_Md_78 : Cond.fieldLink R_Md 78 "ExactShares2Model" "nodes" "I" ∈ zws := zmem 646 (by decide +kernel) (by decide +kernel)
theorem wf_Md_7 : Cond.fieldLink R_Md 7 "ExactShares2Model" "isLeaf" "[Z" ∈ zws := zmem 647 (by decide +kernel) (by decide +kernel)
theorem wf_Md_13 : Cond.fieldLink R_Md 13 "ExactShares2Model" "number" "[I" ∈ zws := zmem 648 (by decide +kernel) (by decide +kernel)
theorem wf_Md_17 : Cond.fieldLink R_Md 17 "ExactShares2Model" "splitOf" "[I" ∈ zws := zmem 649 (by decide +kernel) (by decide +kernel)
theorem wf_Md_20 : Cond.fieldLink R_Md 20 "ExactShares2Model" "low" "[I" ∈ zws := zmem 650 (by decide +kernel) (by decide +kernel)
theorem wf_Md_23 : Cond.fieldLink R_Md 23 "ExactShares2Model" "high" "[I" ∈ zws := zmem 651 (by decide +kernel) (by decide +kernel)
theorem wf_Md_85 : Cond.fieldLink R_Md 85 "ExactShares2Model" "roots" "I" ∈ zws := zmem 652 (by decide +kernel) (by decide +kernel)
theorem wf_Md_26 : Cond.fieldLink R_Md 26 "ExactShares2Model" "root" "[I" ∈ zws := zmem 653 (by decide +kernel) (by decide +kernel)
theorem wf_Md_29 : Cond.fieldLink R_Md 29 "ExactShares2Model" "weights" "[I" ∈ zws := zmem 654 (by decide +kernel) (by decide +kernel)
theorem wf_Md_32 : Cond.fieldLink R_Md 32 "ExactShares2Model" "groups" "[I" ∈ zws := zmem 655 (by decide +kernel) (by decide +kernel)
theorem wf_Md_35 : Cond.fieldLink R_Md 35 "ExactShares2Model" "barred" "[Z" ∈ zws := zmem 656 (by decide +kernel) (by decide +kernel)
theorem wf_Md_88 : Cond.fieldLink R_Md 88 "ExactShares2Model" "rows" "I" ∈ zws := zmem 657 (by decide +kernel) (by decide +kernel)
theorem wf_Md_38 : Cond.fieldLink R_Md 38 "ExactShares2Model" "items" "[I" ∈ zws := zmem 658 (by decide +kernel) (by decide +kernel)
theorem wf_Md_41 : Cond.fieldLink R_Md 41 "ExactShares2Model" "now" "[I" ∈ zws := zmem 659 (by decide +kernel) (by decide +kernel)
theorem wf_Md_44 : Cond.fieldLink R_Md 44 "ExactShares2Model" "sums" "[J" ∈ zws := zmem 660 (by decide +kernel) (by decide +kernel)
theorem wf_Md_112 : Cond.fieldLink R_Md 112 "ExactShares2Model" "many" "I" ∈ zws := zmem 661 (by decide +kernel) (by decide +kernel)
theorem wf_Md_48 : Cond.fieldLink R_Md 48 "ExactShares2Model" "parts" "[I" ∈ zws := zmem 662 (by decide +kernel) (by decide +kernel)
theorem wf_Md_51 : Cond.fieldLink R_Md 51 "ExactShares2Model" "order" "[I" ∈ zws := zmem 663 (by decide +kernel) (by decide +kernel)
theorem wf_Md_54 : Cond.fieldLink R_Md 54 "ExactShares2Model" "sizes" "[J" ∈ zws := zmem 664 (by decide +kernel) (by decide +kernel)
theorem wf_Md_57 : Cond.fieldLink R_Md 57 "ExactShares2Model" "from" "[I" ∈ zws := zmem 665 (by decide +kernel) (by decide +kernel)
theorem wf_Md_60 : Cond.fieldLink R_Md 60 "ExactShares2Model" "best" "[I" ∈ zws := zmem 666 (by decide +kernel) (by decide +kernel)
theorem wf_Md_143 : Cond.fieldLink R_Md 143 "ExactShares2Model" "bestMany" "I" ∈ zws := zmem 667 (by decide +kernel) (by decide +kernel)
theorem wf_Md_146 : Cond.fieldLink R_Md 146 "ExactShares2Model" "bestSum" "I" ∈ zws := zmem 668 (by decide +kernel) (by decide +kernel)
theorem wm_La_38 : Cond.methodLink R_La 38 y_ES_init ∈ zws := zmem 17 (by decide +kernel) (by decide +kernel)
theorem wm_ES_38 : Cond.methodLink R_ES 38 y_Gr_init ∈ zws := zmem 84 (by decide +kernel) (by decide +kernel)
theorem wm_Gr_19 : Cond.methodLink R_Gr 19 y_Gr_standAlone ∈ zws := zmem 88 (by decide +kernel) (by decide +kernel)
theorem wm_ES_47 : Cond.methodLink R_ES 47 y_Me_init ∈ zws := zmem 101 (by decide +kernel) (by decide +kernel)
theorem wm_Me_33 : Cond.methodLink R_Me 33 y_Or_init ∈ zws := zmem 107 (by decide +kernel) (by decide +kernel)
theorem wm_ES_56 : Cond.methodLink R_ES 56 y_Se_init ∈ zws := zmem 146 (by decide +kernel) (by decide +kernel)
theorem wm_La_44 : Cond.methodLink R_La 44 y_ES_leaf ∈ zws := zmem 206 (by decide +kernel) (by decide +kernel)
theorem wm_ES_63 : Cond.methodLink R_ES 63 y_ES_isWithin ∈ zws := zmem 210 (by decide +kernel) (by decide +kernel)
theorem wm_ES_67 : Cond.methodLink R_ES 67 y_Ln_addLeaf ∈ zws := zmem 213 (by decide +kernel) (by decide +kernel)
theorem wm_Ln_40 : Cond.methodLink R_Ln 40 y_Ln_addNode ∈ zws := zmem 217 (by decide +kernel) (by decide +kernel)
theorem wm_La_49 : Cond.methodLink R_La 49 y_ES_split ∈ zws := zmem 221 (by decide +kernel) (by decide +kernel)
theorem wm_ES_71 : Cond.methodLink R_ES 71 y_ES_isColumn ∈ zws := zmem 225 (by decide +kernel) (by decide +kernel)
theorem wm_ES_75 : Cond.methodLink R_ES 75 y_Ln_hasNode ∈ zws := zmem 229 (by decide +kernel) (by decide +kernel)
theorem wm_ES_78 : Cond.methodLink R_ES 78 y_Ln_addSplit ∈ zws := zmem 233 (by decide +kernel) (by decide +kernel)
theorem wm_La_54 : Cond.methodLink R_La 54 y_ES_root ∈ zws := zmem 237 (by decide +kernel) (by decide +kernel)
theorem wm_ES_82 : Cond.methodLink R_ES 82 y_Ln_addRoot ∈ zws := zmem 241 (by decide +kernel) (by decide +kernel)
theorem wm_La_58 : Cond.methodLink R_La 58 y_ES_weight ∈ zws := zmem 245 (by decide +kernel) (by decide +kernel)
theorem wm_ES_85 : Cond.methodLink R_ES 85 y_Ln_weigh ∈ zws := zmem 249 (by decide +kernel) (by decide +kernel)
theorem wm_La_63 : Cond.methodLink R_La 63 y_ES_clear ∈ zws := zmem 253 (by decide +kernel) (by decide +kernel)
theorem wm_ES_89 : Cond.methodLink R_ES 89 y_Ln_forget ∈ zws := zmem 257 (by decide +kernel) (by decide +kernel)
theorem wm_ES_93 : Cond.methodLink R_ES 93 y_Rw_forget ∈ zws := zmem 261 (by decide +kernel) (by decide +kernel)
theorem wm_Rw_24 : Cond.methodLink R_Rw 24 y_Rw_empty ∈ zws := zmem 265 (by decide +kernel) (by decide +kernel)
theorem wm_ES_95 : Cond.methodLink R_ES 95 y_Gr_standAlone ∈ zws := zmem 268 (by decide +kernel) (by decide +kernel)
theorem wm_ES_98 : Cond.methodLink R_ES 98 y_Se_unbarAll ∈ zws := zmem 269 (by decide +kernel) (by decide +kernel)
theorem wm_La_68 : Cond.methodLink R_La 68 y_ES_background ∈ zws := zmem 273 (by decide +kernel) (by decide +kernel)
theorem wm_ES_101 : Cond.methodLink R_ES 101 y_Rw_addRow ∈ zws := zmem 277 (by decide +kernel) (by decide +kernel)
theorem wm_La_72 : Cond.methodLink R_La 72 y_ES_item ∈ zws := zmem 281 (by decide +kernel) (by decide +kernel)
theorem wm_ES_104 : Cond.methodLink R_ES 104 y_Rw_has ∈ zws := zmem 285 (by decide +kernel) (by decide +kernel)
theorem wm_ES_107 : Cond.methodLink R_ES 107 y_Rw_at ∈ zws := zmem 289 (by decide +kernel) (by decide +kernel)
theorem wm_La_77 : Cond.methodLink R_La 77 y_ES_group ∈ zws := zmem 293 (by decide +kernel) (by decide +kernel)
theorem wm_ES_111 : Cond.methodLink R_ES 111 y_Gr_move ∈ zws := zmem 297 (by decide +kernel) (by decide +kernel)
theorem wm_La_81 : Cond.methodLink R_La 81 y_ES_answer ∈ zws := zmem 301 (by decide +kernel) (by decide +kernel)
theorem wm_ES_116 : Cond.methodLink R_ES 116 y_Ln_sumFor ∈ zws := zmem 306 (by decide +kernel) (by decide +kernel)
theorem wm_Ln_44 : Cond.methodLink R_Ln 44 y_Ln_givenBy ∈ zws := zmem 310 (by decide +kernel) (by decide +kernel)
theorem wm_La_110 : Cond.methodLink R_La 110 y_ES_rank ∈ zws := zmem 314 (by decide +kernel) (by decide +kernel)
theorem wm_ES_164 : Cond.methodLink R_ES 164 y_Gr_count ∈ zws := zmem 318 (by decide +kernel) (by decide +kernel)
theorem wm_Gr_22 : Cond.methodLink R_Gr 22 y_Gr_there ∈ zws := zmem 322 (by decide +kernel) (by decide +kernel)
theorem wm_Gr_26 : Cond.methodLink R_Gr 26 y_In_bitCount ∈ zws := zmem 326 (by decide +kernel) (by decide +kernel)
theorem wm_ES_127 : Cond.methodLink R_ES 127 y_Rw_count ∈ zws := zmem 332 (by decide +kernel) (by decide +kernel)
theorem wm_ES_165 : Cond.methodLink R_ES 165 y_Me_measureShares ∈ zws := zmem 336 (by decide +kernel) (by decide +kernel)
theorem wm_Me_64 : Cond.methodLink R_Me 64 y_Gr_there ∈ zws := zmem 340 (by decide +kernel) (by decide +kernel)
theorem wm_Me_103 : Cond.methodLink R_Me 103 y_Me_shareSum ∈ zws := zmem 341 (by decide +kernel) (by decide +kernel)
theorem wm_Me_69 : Cond.methodLink R_Me 69 y_Gr_columnsOf ∈ zws := zmem 345 (by decide +kernel) (by decide +kernel)
theorem wm_Me_73 : Cond.methodLink R_Me 73 y_In_bitCount ∈ zws := zmem 349 (by decide +kernel) (by decide +kernel)
theorem wm_Me_78 : Cond.methodLink R_Me 78 y_Me_ordersAround ∈ zws := zmem 350 (by decide +kernel) (by decide +kernel)
theorem wm_Me_82 : Cond.methodLink R_Me 82 y_Me_brought ∈ zws := zmem 356 (by decide +kernel) (by decide +kernel)
theorem wm_Me_60 : Cond.methodLink R_Me 60 y_Me_total ∈ zws := zmem 360 (by decide +kernel) (by decide +kernel)
theorem wm_Me_40 : Cond.methodLink R_Me 40 y_Rw_count ∈ zws := zmem 364 (by decide +kernel) (by decide +kernel)
theorem wm_Me_46 : Cond.methodLink R_Me 46 y_Rw_at ∈ zws := zmem 365 (by decide +kernel) (by decide +kernel)
theorem wm_Me_50 : Cond.methodLink R_Me 50 y_Me_mix ∈ zws := zmem 366 (by decide +kernel) (by decide +kernel)
theorem wm_Me_54 : Cond.methodLink R_Me 54 y_Ln_sumFor ∈ zws := zmem 370 (by decide +kernel) (by decide +kernel)
theorem wm_ES_168 : Cond.methodLink R_ES 168 y_Me_groupAtPlace ∈ zws := zmem 374 (by decide +kernel) (by decide +kernel)
theorem wm_Me_112 : Cond.methodLink R_Me 112 y_Me_countAhead ∈ zws := zmem 378 (by decide +kernel) (by decide +kernel)
theorem wm_La_114 : Cond.methodLink R_La 114 y_ES_bar ∈ zws := zmem 382 (by decide +kernel) (by decide +kernel)
theorem wm_ES_171 : Cond.methodLink R_ES 171 y_Se_setBarred ∈ zws := zmem 386 (by decide +kernel) (by decide +kernel)
theorem wm_La_119 : Cond.methodLink R_La 119 y_ES_nearest ∈ zws := zmem 390 (by decide +kernel) (by decide +kernel)
theorem wm_ES_175 : Cond.methodLink R_ES 175 y_Se_find ∈ zws := zmem 394 (by decide +kernel) (by decide +kernel)
theorem wm_Se_52 : Cond.methodLink R_Se 52 y_Se_gatherChoices ∈ zws := zmem 398 (by decide +kernel) (by decide +kernel)
theorem wm_Se_63 : Cond.methodLink R_Se 63 y_Rw_at ∈ zws := zmem 402 (by decide +kernel) (by decide +kernel)
theorem wm_Se_69 : Cond.methodLink R_Se 69 y_Se_addChoice ∈ zws := zmem 403 (by decide +kernel) (by decide +kernel)
theorem wm_Se_72 : Cond.methodLink R_Se 72 y_Rw_count ∈ zws := zmem 407 (by decide +kernel) (by decide +kernel)
theorem wm_Se_56 : Cond.methodLink R_Se 56 y_Se_open ∈ zws := zmem 408 (by decide +kernel) (by decide +kernel)
theorem wm_Se_59 : Cond.methodLink R_Se 59 y_Se_visit ∈ zws := zmem 412 (by decide +kernel) (by decide +kernel)
theorem wm_Se_76 : Cond.methodLink R_Se 76 y_Ln_boundWithin ∈ zws := zmem 416 (by decide +kernel) (by decide +kernel)
theorem wm_Ln_48 : Cond.methodLink R_Ln 48 y_Ln_peakOf ∈ zws := zmem 420 (by decide +kernel) (by decide +kernel)
theorem wm_Se_82 : Cond.methodLink R_Se 82 y_Se_settle ∈ zws := zmem 425 (by decide +kernel) (by decide +kernel)
theorem wm_Se_88 : Cond.methodLink R_Se 88 y_Se_costOf ∈ zws := zmem 429 (by decide +kernel) (by decide +kernel)
theorem wm_Se_85 : Cond.methodLink R_Se 85 y_Se_keep ∈ zws := zmem 436 (by decide +kernel) (by decide +kernel)
theorem wm_ES_178 : Cond.methodLink R_ES 178 y_Se_differing ∈ zws := zmem 440 (by decide +kernel) (by decide +kernel)
theorem wm_La_123 : Cond.methodLink R_La 123 y_ES_nearestAt ∈ zws := zmem 444 (by decide +kernel) (by decide +kernel)
theorem wm_ES_181 : Cond.methodLink R_ES 181 y_Se_foundIn ∈ zws := zmem 448 (by decide +kernel) (by decide +kernel)
theorem wm_La_32 : Cond.methodLink R_La 32 y_La_cell ∈ zws := zmem 452 (by decide +kernel) (by decide +kernel)
theorem wm_La_86 : Cond.methodLink R_La 86 y_La_value ∈ zws := zmem 455 (by decide +kernel) (by decide +kernel)
theorem wm_La_7 : Cond.methodLink R_La 7 y_ES_value ∈ zws := zmem 459 (by decide +kernel) (by decide +kernel)
theorem wm_ES_120 : Cond.methodLink R_ES 120 y_ES_isPart ∈ zws := zmem 463 (by decide +kernel) (by decide +kernel)
theorem wm_ES_123 : Cond.methodLink R_ES 123 y_Me_total ∈ zws := zmem 466 (by decide +kernel) (by decide +kernel)
theorem wm_ES_130 : Cond.methodLink R_ES 130 y_ES_told ∈ zws := zmem 467 (by decide +kernel) (by decide +kernel)
theorem wm_ES_195 : Cond.methodLink R_ES 195 y_ES_commonDivisor ∈ zws := zmem 537 (by decide +kernel) (by decide +kernel)
theorem wm_La_93 : Cond.methodLink R_La 93 y_La_share ∈ zws := zmem 540 (by decide +kernel) (by decide +kernel)
theorem wm_La_15 : Cond.methodLink R_La 15 y_ES_share ∈ zws := zmem 543 (by decide +kernel) (by decide +kernel)
theorem wm_ES_134 : Cond.methodLink R_ES 134 y_ES_isManner ∈ zws := zmem 547 (by decide +kernel) (by decide +kernel)
theorem wm_ES_137 : Cond.methodLink R_ES 137 y_Gr_ofColumn ∈ zws := zmem 550 (by decide +kernel) (by decide +kernel)
theorem wm_ES_140 : Cond.methodLink R_ES 140 y_Me_shareSum ∈ zws := zmem 554 (by decide +kernel) (by decide +kernel)
theorem wm_ES_144 : Cond.methodLink R_ES 144 y_Me_shareWays ∈ zws := zmem 555 (by decide +kernel) (by decide +kernel)
theorem wm_Me_85 : Cond.methodLink R_Me 85 y_Gr_count ∈ zws := zmem 559 (by decide +kernel) (by decide +kernel)
theorem wm_La_97 : Cond.methodLink R_La 97 y_La_both ∈ zws := zmem 560 (by decide +kernel) (by decide +kernel)
theorem wm_La_19 : Cond.methodLink R_La 19 y_ES_both ∈ zws := zmem 563 (by decide +kernel) (by decide +kernel)
theorem wm_ES_147 : Cond.methodLink R_ES 147 y_Me_togetherSum ∈ zws := zmem 567 (by decide +kernel) (by decide +kernel)
theorem wm_ES_150 : Cond.methodLink R_ES 150 y_Me_togetherWays ∈ zws := zmem 571 (by decide +kernel) (by decide +kernel)
theorem wm_La_100 : Cond.methodLink R_La 100 y_La_drawn ∈ zws := zmem 575 (by decide +kernel) (by decide +kernel)
theorem wm_La_22 : Cond.methodLink R_La 22 y_ES_drawn ∈ zws := zmem 578 (by decide +kernel) (by decide +kernel)
theorem wm_ES_154 : Cond.methodLink R_ES 154 y_Me_drawnSum ∈ zws := zmem 582 (by decide +kernel) (by decide +kernel)
theorem wm_Me_89 : Cond.methodLink R_Me 89 y_Or_start ∈ zws := zmem 586 (by decide +kernel) (by decide +kernel)
theorem wm_Me_93 : Cond.methodLink R_Me 93 y_Or_drawNext ∈ zws := zmem 590 (by decide +kernel) (by decide +kernel)
theorem wm_Or_26 : Cond.methodLink R_Or 26 y_Or_lineUp ∈ zws := zmem 594 (by decide +kernel) (by decide +kernel)
theorem wm_Or_33 : Cond.methodLink R_Or 33 y_Gr_there ∈ zws := zmem 598 (by decide +kernel) (by decide +kernel)
theorem wm_Or_29 : Cond.methodLink R_Or 29 y_Or_below ∈ zws := zmem 599 (by decide +kernel) (by decide +kernel)
theorem wm_Me_96 : Cond.methodLink R_Me 96 y_Or_groupsBefore ∈ zws := zmem 604 (by decide +kernel) (by decide +kernel)
theorem wm_La_104 : Cond.methodLink R_La 104 y_La_partial ∈ zws := zmem 608 (by decide +kernel) (by decide +kernel)
theorem wm_La_26 : Cond.methodLink R_La 26 y_ES_partial ∈ zws := zmem 611 (by decide +kernel) (by decide +kernel)
theorem wm_ES_158 : Cond.methodLink R_ES 158 y_Me_replacedSum ∈ zws := zmem 615 (by decide +kernel) (by decide +kernel)
theorem wm_Me_99 : Cond.methodLink R_Me 99 y_Me_sumWith ∈ zws := zmem 619 (by decide +kernel) (by decide +kernel)
theorem wm_La_107 : Cond.methodLink R_La 107 y_La_worth ∈ zws := zmem 623 (by decide +kernel) (by decide +kernel)
theorem wm_La_29 : Cond.methodLink R_La 29 y_ES_worth ∈ zws := zmem 626 (by decide +kernel) (by decide +kernel)
theorem wm_ES_161 : Cond.methodLink R_ES 161 y_Me_changeSum ∈ zws := zmem 630 (by decide +kernel) (by decide +kernel)
theorem wm_La_43 : Cond.methodLink R_La 43 y_Md_init ∈ zws := zmem 636 (by decide +kernel) (by decide +kernel)
theorem wm_Md_67 : Cond.methodLink R_Md 67 y_Md_clear ∈ zws := zmem 640 (by decide +kernel) (by decide +kernel)
theorem wm_La_90 : Cond.methodLink R_La 90 y_Md_thrown ∈ zws := zmem 720 (by decide +kernel) (by decide +kernel)
theorem wm_La_48 : Cond.methodLink R_La 48 y_Md_leaf ∈ zws := zmem 724 (by decide +kernel) (by decide +kernel)
theorem wm_Md_74 : Cond.methodLink R_Md 74 y_Md_in ∈ zws := zmem 728 (by decide +kernel) (by decide +kernel)
theorem wm_La_53 : Cond.methodLink R_La 53 y_Md_split ∈ zws := zmem 731 (by decide +kernel) (by decide +kernel)
theorem wm_Md_81 : Cond.methodLink R_Md 81 y_Md_isColumn ∈ zws := zmem 735 (by decide +kernel) (by decide +kernel)
theorem wm_La_57 : Cond.methodLink R_La 57 y_Md_root ∈ zws := zmem 739 (by decide +kernel) (by decide +kernel)
theorem wm_La_62 : Cond.methodLink R_La 62 y_Md_weight ∈ zws := zmem 743 (by decide +kernel) (by decide +kernel)
theorem wm_La_67 : Cond.methodLink R_La 67 y_Md_clear ∈ zws := zmem 747 (by decide +kernel) (by decide +kernel)
theorem wm_La_71 : Cond.methodLink R_La 71 y_Md_background ∈ zws := zmem 748 (by decide +kernel) (by decide +kernel)
theorem wm_La_76 : Cond.methodLink R_La 76 y_Md_item ∈ zws := zmem 752 (by decide +kernel) (by decide +kernel)
theorem wm_La_80 : Cond.methodLink R_La 80 y_Md_group ∈ zws := zmem 756 (by decide +kernel) (by decide +kernel)
theorem wm_La_85 : Cond.methodLink R_La 85 y_Md_answer ∈ zws := zmem 760 (by decide +kernel) (by decide +kernel)
theorem wm_Md_93 : Cond.methodLink R_Md 93 y_Md_take ∈ zws := zmem 765 (by decide +kernel) (by decide +kernel)
theorem wm_Md_97 : Cond.methodLink R_Md 97 y_Md_answerNow ∈ zws := zmem 769 (by decide +kernel) (by decide +kernel)
theorem wm_La_89 : Cond.methodLink R_La 89 y_Md_value ∈ zws := zmem 773 (by decide +kernel) (by decide +kernel)
theorem wm_Md_101 : Cond.methodLink R_Md 101 y_Md_throwsNow ∈ zws := zmem 777 (by decide +kernel) (by decide +kernel)
theorem wm_Md_105 : Cond.methodLink R_Md 105 y_Md_sumAll ∈ zws := zmem 781 (by decide +kernel) (by decide +kernel)
theorem wm_Md_108 : Cond.methodLink R_Md 108 y_Md_part ∈ zws := zmem 785 (by decide +kernel) (by decide +kernel)
theorem wm_La_96 : Cond.methodLink R_La 96 y_Md_share ∈ zws := zmem 788 (by decide +kernel) (by decide +kernel)
theorem wm_Md_115 : Cond.methodLink R_Md 115 y_Md_groupBits ∈ zws := zmem 792 (by decide +kernel) (by decide +kernel)
theorem wm_Md_132 : Cond.methodLink R_Md 132 y_Md_shareSum ∈ zws := zmem 796 (by decide +kernel) (by decide +kernel)
theorem wm_Md_119 : Cond.methodLink R_Md 119 y_Md_listParts ∈ zws := zmem 800 (by decide +kernel) (by decide +kernel)
theorem wm_Md_123 : Cond.methodLink R_Md 123 y_Md_orders ∈ zws := zmem 804 (by decide +kernel) (by decide +kernel)
theorem wm_Md_126 : Cond.methodLink R_Md 126 y_Md_layOrder ∈ zws := zmem 808 (by decide +kernel) (by decide +kernel)
theorem wm_Md_129 : Cond.methodLink R_Md 129 y_Md_before ∈ zws := zmem 812 (by decide +kernel) (by decide +kernel)
theorem wm_Md_136 : Cond.methodLink R_Md 136 y_Md_setSum ∈ zws := zmem 816 (by decide +kernel) (by decide +kernel)
theorem wm_La_99 : Cond.methodLink R_La 99 y_Md_both ∈ zws := zmem 820 (by decide +kernel) (by decide +kernel)
theorem wm_La_103 : Cond.methodLink R_La 103 y_Md_drawn ∈ zws := zmem 824 (by decide +kernel) (by decide +kernel)
theorem wm_La_106 : Cond.methodLink R_La 106 y_Md_partial ∈ zws := zmem 829 (by decide +kernel) (by decide +kernel)
theorem wm_La_109 : Cond.methodLink R_La 109 y_Md_worth ∈ zws := zmem 833 (by decide +kernel) (by decide +kernel)
theorem wm_La_113 : Cond.methodLink R_La 113 y_Md_rank ∈ zws := zmem 837 (by decide +kernel) (by decide +kernel)
theorem wm_Md_140 : Cond.methodLink R_Md 140 y_Md_findSizes ∈ zws := zmem 841 (by decide +kernel) (by decide +kernel)
theorem wm_La_118 : Cond.methodLink R_La 118 y_Md_bar ∈ zws := zmem 845 (by decide +kernel) (by decide +kernel)
theorem wm_La_122 : Cond.methodLink R_La 122 y_Md_nearest ∈ zws := zmem 849 (by decide +kernel) (by decide +kernel)
theorem wm_Md_156 : Cond.methodLink R_Md 156 y_Md_findNearest ∈ zws := zmem 853 (by decide +kernel) (by decide +kernel)
theorem wm_Md_149 : Cond.methodLink R_Md 149 y_Md_hold ∈ zws := zmem 857 (by decide +kernel) (by decide +kernel)
theorem wm_Md_153 : Cond.methodLink R_Md 153 y_Md_next ∈ zws := zmem 861 (by decide +kernel) (by decide +kernel)
theorem wm_La_126 : Cond.methodLink R_La 126 y_Md_nearestAt ∈ zws := zmem 865 (by decide +kernel) (by decide +kernel)
theorem ws_Gr_standAlone : Cond.selects R_Gr y_Gr_standAlone y_Gr_standAlone ∈ zws := zmem 90 (by decide +kernel) (by decide +kernel)
theorem ws_ES_leaf : Cond.selects R_ES y_ES_leaf y_ES_leaf ∈ zws := zmem 208 (by decide +kernel) (by decide +kernel)
theorem ws_Ln_addLeaf : Cond.selects R_Ln y_Ln_addLeaf y_Ln_addLeaf ∈ zws := zmem 215 (by decide +kernel) (by decide +kernel)
theorem ws_Ln_addNode : Cond.selects R_Ln y_Ln_addNode y_Ln_addNode ∈ zws := zsel 0 (by decide +kernel) (by decide +kernel)
theorem ws_ES_split : Cond.selects R_ES y_ES_split y_ES_split ∈ zws := zmem 223 (by decide +kernel) (by decide +kernel)
theorem ws_ES_isColumn : Cond.selects R_ES y_ES_isColumn y_ES_isColumn ∈ zws := zsel 1 (by decide +kernel) (by decide +kernel)
theorem ws_Ln_hasNode : Cond.selects R_Ln y_Ln_hasNode y_Ln_hasNode ∈ zws := zmem 231 (by decide +kernel) (by decide +kernel)
theorem ws_Ln_addSplit : Cond.selects R_Ln y_Ln_addSplit y_Ln_addSplit ∈ zws := zmem 235 (by decide +kernel) (by decide +kernel)
theorem ws_ES_root : Cond.selects R_ES y_ES_root y_ES_root ∈ zws := zmem 239 (by decide +kernel) (by decide +kernel)
theorem ws_Ln_addRoot : Cond.selects R_Ln y_Ln_addRoot y_Ln_addRoot ∈ zws := zmem 243 (by decide +kernel) (by decide +kernel)
theorem ws_ES_weight : Cond.selects R_ES y_ES_weight y_ES_weight ∈ zws := zmem 247 (by decide +kernel) (by decide +kernel)
theorem ws_Ln_weigh : Cond.selects R_Ln y_Ln_weigh y_Ln_weigh ∈ zws := zmem 251 (by decide +kernel) (by decide +kernel)
theorem ws_ES_clear : Cond.selects R_ES y_ES_clear y_ES_clear ∈ zws := zmem 255 (by decide +kernel) (by decide +kernel)
theorem ws_Ln_forget : Cond.selects R_Ln y_Ln_forget y_Ln_forget ∈ zws := zmem 259 (by decide +kernel) (by decide +kernel)
theorem ws_Rw_forget : Cond.selects R_Rw y_Rw_forget y_Rw_forget ∈ zws := zmem 263 (by decide +kernel) (by decide +kernel)
theorem ws_Se_unbarAll : Cond.selects R_Se y_Se_unbarAll y_Se_unbarAll ∈ zws := zmem 271 (by decide +kernel) (by decide +kernel)
theorem ws_ES_background : Cond.selects R_ES y_ES_background y_ES_background ∈ zws := zmem 275 (by decide +kernel) (by decide +kernel)
theorem ws_Rw_addRow : Cond.selects R_Rw y_Rw_addRow y_Rw_addRow ∈ zws := zmem 279 (by decide +kernel) (by decide +kernel)
theorem ws_ES_item : Cond.selects R_ES y_ES_item y_ES_item ∈ zws := zmem 283 (by decide +kernel) (by decide +kernel)
theorem ws_Rw_has : Cond.selects R_Rw y_Rw_has y_Rw_has ∈ zws := zmem 287 (by decide +kernel) (by decide +kernel)
theorem ws_Rw_at : Cond.selects R_Rw y_Rw_at y_Rw_at ∈ zws := zmem 291 (by decide +kernel) (by decide +kernel)
theorem ws_ES_group : Cond.selects R_ES y_ES_group y_ES_group ∈ zws := zmem 295 (by decide +kernel) (by decide +kernel)
theorem ws_Gr_move : Cond.selects R_Gr y_Gr_move y_Gr_move ∈ zws := zmem 299 (by decide +kernel) (by decide +kernel)
theorem ws_ES_answer : Cond.selects R_ES y_ES_answer y_ES_answer ∈ zws := zmem 303 (by decide +kernel) (by decide +kernel)
theorem ws_Ln_sumFor : Cond.selects R_Ln y_Ln_sumFor y_Ln_sumFor ∈ zws := zmem 308 (by decide +kernel) (by decide +kernel)
theorem ws_Ln_givenBy : Cond.selects R_Ln y_Ln_givenBy y_Ln_givenBy ∈ zws := zsel 2 (by decide +kernel) (by decide +kernel)
theorem ws_ES_rank : Cond.selects R_ES y_ES_rank y_ES_rank ∈ zws := zmem 316 (by decide +kernel) (by decide +kernel)
theorem ws_Gr_count : Cond.selects R_Gr y_Gr_count y_Gr_count ∈ zws := zmem 320 (by decide +kernel) (by decide +kernel)
theorem ws_Gr_there : Cond.selects R_Gr y_Gr_there y_Gr_there ∈ zws := zmem 324 (by decide +kernel) (by decide +kernel)
theorem ws_Rw_count : Cond.selects R_Rw y_Rw_count y_Rw_count ∈ zws := zmem 334 (by decide +kernel) (by decide +kernel)
theorem ws_Me_measureShares : Cond.selects R_Me y_Me_measureShares y_Me_measureShares ∈ zws := zmem 338 (by decide +kernel) (by decide +kernel)
theorem ws_Me_shareSum : Cond.selects R_Me y_Me_shareSum y_Me_shareSum ∈ zws := zmem 343 (by decide +kernel) (by decide +kernel)
theorem ws_Gr_columnsOf : Cond.selects R_Gr y_Gr_columnsOf y_Gr_columnsOf ∈ zws := zmem 347 (by decide +kernel) (by decide +kernel)
theorem ws_Me_brought : Cond.selects R_Me y_Me_brought y_Me_brought ∈ zws := zsel 3 (by decide +kernel) (by decide +kernel)
theorem ws_Me_total : Cond.selects R_Me y_Me_total y_Me_total ∈ zws := zmem 362 (by decide +kernel) (by decide +kernel)
theorem ws_Me_mix : Cond.selects R_Me y_Me_mix y_Me_mix ∈ zws := zsel 4 (by decide +kernel) (by decide +kernel)
theorem ws_Me_groupAtPlace : Cond.selects R_Me y_Me_groupAtPlace y_Me_groupAtPlace ∈ zws := zmem 376 (by decide +kernel) (by decide +kernel)
theorem ws_Me_countAhead : Cond.selects R_Me y_Me_countAhead y_Me_countAhead ∈ zws := zsel 5 (by decide +kernel) (by decide +kernel)
theorem ws_ES_bar : Cond.selects R_ES y_ES_bar y_ES_bar ∈ zws := zmem 384 (by decide +kernel) (by decide +kernel)
theorem ws_Se_setBarred : Cond.selects R_Se y_Se_setBarred y_Se_setBarred ∈ zws := zmem 388 (by decide +kernel) (by decide +kernel)
theorem ws_ES_nearest : Cond.selects R_ES y_ES_nearest y_ES_nearest ∈ zws := zmem 392 (by decide +kernel) (by decide +kernel)
theorem ws_Se_find : Cond.selects R_Se y_Se_find y_Se_find ∈ zws := zmem 396 (by decide +kernel) (by decide +kernel)
theorem ws_Se_gatherChoices : Cond.selects R_Se y_Se_gatherChoices y_Se_gatherChoices ∈ zws := zsel 6 (by decide +kernel) (by decide +kernel)
theorem ws_Se_addChoice : Cond.selects R_Se y_Se_addChoice y_Se_addChoice ∈ zws := zsel 7 (by decide +kernel) (by decide +kernel)
theorem ws_Se_open : Cond.selects R_Se y_Se_open y_Se_open ∈ zws := zsel 8 (by decide +kernel) (by decide +kernel)
theorem ws_Se_visit : Cond.selects R_Se y_Se_visit y_Se_visit ∈ zws := zsel 9 (by decide +kernel) (by decide +kernel)
theorem ws_Ln_boundWithin : Cond.selects R_Ln y_Ln_boundWithin y_Ln_boundWithin ∈ zws := zmem 418 (by decide +kernel) (by decide +kernel)
theorem ws_Ln_peakOf : Cond.selects R_Ln y_Ln_peakOf y_Ln_peakOf ∈ zws := zsel 10 (by decide +kernel) (by decide +kernel)
theorem ws_Se_settle : Cond.selects R_Se y_Se_settle y_Se_settle ∈ zws := zsel 11 (by decide +kernel) (by decide +kernel)
theorem ws_Se_costOf : Cond.selects R_Se y_Se_costOf y_Se_costOf ∈ zws := zsel 12 (by decide +kernel) (by decide +kernel)
theorem ws_Se_keep : Cond.selects R_Se y_Se_keep y_Se_keep ∈ zws := zsel 13 (by decide +kernel) (by decide +kernel)
theorem ws_Se_differing : Cond.selects R_Se y_Se_differing y_Se_differing ∈ zws := zmem 442 (by decide +kernel) (by decide +kernel)
theorem ws_ES_nearestAt : Cond.selects R_ES y_ES_nearestAt y_ES_nearestAt ∈ zws := zmem 446 (by decide +kernel) (by decide +kernel)
theorem ws_Se_foundIn : Cond.selects R_Se y_Se_foundIn y_Se_foundIn ∈ zws := zmem 450 (by decide +kernel) (by decide +kernel)
theorem ws_ES_value : Cond.selects R_ES y_ES_value y_ES_value ∈ zws := zmem 461 (by decide +kernel) (by decide +kernel)
theorem ws_ES_share : Cond.selects R_ES y_ES_share y_ES_share ∈ zws := zmem 545 (by decide +kernel) (by decide +kernel)
theorem ws_Gr_ofColumn : Cond.selects R_Gr y_Gr_ofColumn y_Gr_ofColumn ∈ zws := zmem 552 (by decide +kernel) (by decide +kernel)
theorem ws_Me_shareWays : Cond.selects R_Me y_Me_shareWays y_Me_shareWays ∈ zws := zmem 557 (by decide +kernel) (by decide +kernel)
theorem ws_ES_both : Cond.selects R_ES y_ES_both y_ES_both ∈ zws := zmem 565 (by decide +kernel) (by decide +kernel)
theorem ws_Me_togetherSum : Cond.selects R_Me y_Me_togetherSum y_Me_togetherSum ∈ zws := zmem 569 (by decide +kernel) (by decide +kernel)
theorem ws_Me_togetherWays : Cond.selects R_Me y_Me_togetherWays y_Me_togetherWays ∈ zws := zmem 573 (by decide +kernel) (by decide +kernel)
theorem ws_ES_drawn : Cond.selects R_ES y_ES_drawn y_ES_drawn ∈ zws := zmem 580 (by decide +kernel) (by decide +kernel)
theorem ws_Me_drawnSum : Cond.selects R_Me y_Me_drawnSum y_Me_drawnSum ∈ zws := zmem 584 (by decide +kernel) (by decide +kernel)
theorem ws_Or_start : Cond.selects R_Or y_Or_start y_Or_start ∈ zws := zmem 588 (by decide +kernel) (by decide +kernel)
theorem ws_Or_drawNext : Cond.selects R_Or y_Or_drawNext y_Or_drawNext ∈ zws := zmem 592 (by decide +kernel) (by decide +kernel)
theorem ws_Or_lineUp : Cond.selects R_Or y_Or_lineUp y_Or_lineUp ∈ zws := zsel 15 (by decide +kernel) (by decide +kernel)
theorem ws_Or_below : Cond.selects R_Or y_Or_below y_Or_below ∈ zws := zsel 16 (by decide +kernel) (by decide +kernel)
theorem ws_Or_groupsBefore : Cond.selects R_Or y_Or_groupsBefore y_Or_groupsBefore ∈ zws := zmem 606 (by decide +kernel) (by decide +kernel)
theorem ws_ES_partial : Cond.selects R_ES y_ES_partial y_ES_partial ∈ zws := zmem 613 (by decide +kernel) (by decide +kernel)
theorem ws_Me_replacedSum : Cond.selects R_Me y_Me_replacedSum y_Me_replacedSum ∈ zws := zmem 617 (by decide +kernel) (by decide +kernel)
theorem ws_Me_sumWith : Cond.selects R_Me y_Me_sumWith y_Me_sumWith ∈ zws := zsel 17 (by decide +kernel) (by decide +kernel)
theorem ws_ES_worth : Cond.selects R_ES y_ES_worth y_ES_worth ∈ zws := zmem 628 (by decide +kernel) (by decide +kernel)
theorem ws_Me_changeSum : Cond.selects R_Me y_Me_changeSum y_Me_changeSum ∈ zws := zmem 632 (by decide +kernel) (by decide +kernel)
theorem ws_Md_clear : Cond.selects R_Md y_Md_clear y_Md_clear ∈ zws := zmem 642 (by decide +kernel) (by decide +kernel)
theorem ws_Md_thrown : Cond.selects R_Md y_Md_thrown y_Md_thrown ∈ zws := zmem 722 (by decide +kernel) (by decide +kernel)
theorem ws_Md_leaf : Cond.selects R_Md y_Md_leaf y_Md_leaf ∈ zws := zmem 726 (by decide +kernel) (by decide +kernel)
theorem ws_Md_split : Cond.selects R_Md y_Md_split y_Md_split ∈ zws := zmem 733 (by decide +kernel) (by decide +kernel)
theorem ws_Md_isColumn : Cond.selects R_Md y_Md_isColumn y_Md_isColumn ∈ zws := zsel 18 (by decide +kernel) (by decide +kernel)
theorem ws_Md_root : Cond.selects R_Md y_Md_root y_Md_root ∈ zws := zmem 741 (by decide +kernel) (by decide +kernel)
theorem ws_Md_weight : Cond.selects R_Md y_Md_weight y_Md_weight ∈ zws := zmem 745 (by decide +kernel) (by decide +kernel)
theorem ws_Md_background : Cond.selects R_Md y_Md_background y_Md_background ∈ zws := zmem 750 (by decide +kernel) (by decide +kernel)
theorem ws_Md_item : Cond.selects R_Md y_Md_item y_Md_item ∈ zws := zmem 754 (by decide +kernel) (by decide +kernel)
theorem ws_Md_group : Cond.selects R_Md y_Md_group y_Md_group ∈ zws := zmem 758 (by decide +kernel) (by decide +kernel)
theorem ws_Md_answer : Cond.selects R_Md y_Md_answer y_Md_answer ∈ zws := zmem 762 (by decide +kernel) (by decide +kernel)
theorem ws_Md_take : Cond.selects R_Md y_Md_take y_Md_take ∈ zws := zsel 19 (by decide +kernel) (by decide +kernel)
theorem ws_Md_answerNow : Cond.selects R_Md y_Md_answerNow y_Md_answerNow ∈ zws := zsel 20 (by decide +kernel) (by decide +kernel)
theorem ws_Md_value : Cond.selects R_Md y_Md_value y_Md_value ∈ zws := zmem 775 (by decide +kernel) (by decide +kernel)
theorem ws_Md_throwsNow : Cond.selects R_Md y_Md_throwsNow y_Md_throwsNow ∈ zws := zsel 21 (by decide +kernel) (by decide +kernel)
theorem ws_Md_sumAll : Cond.selects R_Md y_Md_sumAll y_Md_sumAll ∈ zws := zsel 22 (by decide +kernel) (by decide +kernel)
theorem ws_Md_share : Cond.selects R_Md y_Md_share y_Md_share ∈ zws := zmem 790 (by decide +kernel) (by decide +kernel)
theorem ws_Md_groupBits : Cond.selects R_Md y_Md_groupBits y_Md_groupBits ∈ zws := zsel 23 (by decide +kernel) (by decide +kernel)
theorem ws_Md_shareSum : Cond.selects R_Md y_Md_shareSum y_Md_shareSum ∈ zws := zsel 24 (by decide +kernel) (by decide +kernel)
theorem ws_Md_listParts : Cond.selects R_Md y_Md_listParts y_Md_listParts ∈ zws := zsel 25 (by decide +kernel) (by decide +kernel)
theorem ws_Md_orders : Cond.selects R_Md y_Md_orders y_Md_orders ∈ zws := zsel 26 (by decide +kernel) (by decide +kernel)
theorem ws_Md_layOrder : Cond.selects R_Md y_Md_layOrder y_Md_layOrder ∈ zws := zsel 27 (by decide +kernel) (by decide +kernel)
theorem ws_Md_before : Cond.selects R_Md y_Md_before y_Md_before ∈ zws := zsel 28 (by decide +kernel) (by decide +kernel)
theorem ws_Md_setSum : Cond.selects R_Md y_Md_setSum y_Md_setSum ∈ zws := zsel 29 (by decide +kernel) (by decide +kernel)
theorem ws_Md_both : Cond.selects R_Md y_Md_both y_Md_both ∈ zws := zmem 822 (by decide +kernel) (by decide +kernel)
theorem ws_Md_drawn : Cond.selects R_Md y_Md_drawn y_Md_drawn ∈ zws := zmem 826 (by decide +kernel) (by decide +kernel)
theorem ws_Md_partial : Cond.selects R_Md y_Md_partial y_Md_partial ∈ zws := zmem 831 (by decide +kernel) (by decide +kernel)
theorem ws_Md_worth : Cond.selects R_Md y_Md_worth y_Md_worth ∈ zws := zmem 835 (by decide +kernel) (by decide +kernel)
theorem ws_Md_rank : Cond.selects R_Md y_Md_rank y_Md_rank ∈ zws := zmem 839 (by decide +kernel) (by decide +kernel)
theorem ws_Md_findSizes : Cond.selects R_Md y_Md_findSizes y_Md_findSizes ∈ zws := zsel 30 (by decide +kernel) (by decide +kernel)
theorem ws_Md_bar : Cond.selects R_Md y_Md_bar y_Md_bar ∈ zws := zmem 847 (by decide +kernel) (by decide +kernel)
theorem ws_Md_nearest : Cond.selects R_Md y_Md_nearest y_Md_nearest ∈ zws := zmem 851 (by decide +kernel) (by decide +kernel)
theorem ws_Md_findNearest : Cond.selects R_Md y_Md_findNearest y_Md_findNearest ∈ zws := zsel 31 (by decide +kernel) (by decide +kernel)
theorem ws_Md_hold : Cond.selects R_Md y_Md_hold y_Md_hold ∈ zws := zsel 32 (by decide +kernel) (by decide +kernel)
theorem ws_Md_next : Cond.selects R_Md y_Md_next y_Md_next ∈ zws := zsel 33 (by decide +kernel) (by decide +kernel)
theorem ws_Md_nearestAt : Cond.selects R_Md y_Md_nearestAt y_Md_nearestAt ∈ zws := zmem 867 (by decide +kernel) (by decide +kernel)
theorem wk_Se_33 : Cond.constant R_Se 33 (1000000 : Int32) ∈ zws := zmem 151 (by decide +kernel) (by decide +kernel)
theorem wk_ES_114 : Cond.constantLong R_ES 114 (-1000000000000 : Int64) ∈ zws := zmem 305 (by decide +kernel) (by decide +kernel)
theorem wk_In_265 : Cond.constant R_In 265 (1431655765 : Int32) ∈ zws := zmem 329 (by decide +kernel) (by decide +kernel)
theorem wk_In_266 : Cond.constant R_In 266 (858993459 : Int32) ∈ zws := zmem 330 (by decide +kernel) (by decide +kernel)
theorem wk_In_267 : Cond.constant R_In 267 (252645135 : Int32) ∈ zws := zmem 331 (by decide +kernel) (by decide +kernel)
theorem wk_Or_39 : Cond.constant R_Or 39 (1103515245 : Int32) ∈ zws := zmem 603 (by decide +kernel) (by decide +kernel)
theorem wk_Md_91 : Cond.constantLong R_Md 91 (-1000000000000 : Int64) ∈ zws := zmem 764 (by decide +kernel) (by decide +kernel)
theorem wk_Md_139 : Cond.constant R_Md 139 (1103515245 : Int32) ∈ zws := zmem 828 (by decide +kernel) (by decide +kernel)
theorem wm_ES_9 : Cond.methodLink R_ES 9 Lib.Math.min.name ∈ zws := zmem 23 (by decide +kernel) (by decide +kernel)
theorem wst_min : Cond.static Lib.Math.min.name ∈ zws := zmem 24 (by decide +kernel) (by decide +kernel)
theorem wc_min : Cond.code Lib.Math.min.name Lib.Math.min.code 2 (some .int) ∈ zws := zmem 25 (by decide +kernel) (by decide +kernel)
theorem wm_ES_15 : Cond.methodLink R_ES 15 Lib.Math.max.name ∈ zws := zmem 26 (by decide +kernel) (by decide +kernel)
theorem wst_max : Cond.static Lib.Math.max.name ∈ zws := zmem 27 (by decide +kernel) (by decide +kernel)
theorem wc_max : Cond.code Lib.Math.max.name Lib.Math.max.code 2 (some .int) ∈ zws := zmem 28 (by decide +kernel) (by decide +kernel)
theorem wm_Me_106 : Cond.methodLink R_Me 106 Lib.MathLoose.abs_long.x ∈ zws := zmem 371 (by decide +kernel) (by decide +kernel)
theorem wst_abs_long : Cond.static Lib.MathLoose.abs_long.x ∈ zws := zmem 372 (by decide +kernel) (by decide +kernel)
theorem wc_abs_long : Cond.code Lib.MathLoose.abs_long.x Lib.MathLoose.abs_long.code 2 (some .long) ∈ zws := zmem 373 (by decide +kernel) (by decide +kernel)
theorem wm_Ln_52 : Cond.methodLink R_Ln 52 Lib.Math.max.name ∈ zws := zmem 424 (by decide +kernel) (by decide +kernel)
theorem wm_Se_92 : Cond.methodLink R_Se 92 Lib.Math.abs.name ∈ zws := zmem 433 (by decide +kernel) (by decide +kernel)
theorem wst_abs : Cond.static Lib.Math.abs.name ∈ zws := zmem 434 (by decide +kernel) (by decide +kernel)
theorem wc_abs : Cond.code Lib.Math.abs.name Lib.Math.abs.code 1 (some .int) ∈ zws := zmem 435 (by decide +kernel) (by decide +kernel)
theorem wm_ES_191 : Cond.methodLink R_ES 191 Lib.MathLoose.abs_long.x ∈ zws := zmem 536 (by decide +kernel) (by decide +kernel)
theorem wini_Math : Cond.initialized "java/lang/Math" ∈ zws := zmem 2 (by decide +kernel) (by decide +kernel)
end
section
/-! pure pieces: a guarded value, a bind, a name, a loop with fuel -/
def inb (i : Int32) (n : Nat) : Bool := !(decide (i < 0)) && decide (i.toNatClampNeg < n)
theorem inb_in {i : Int32} {n : Nat} (h : inb i n = true) : vp_in i n := by
  simp only [inb, Bool.and_eq_true, Bool.not_eq_true', decide_eq_false_iff_not, decide_eq_true_eq] at h
  intro q
  rcases q with q | q
  · exact h.1 q
  · exact Nat.not_le.mpr h.2 q
theorem inb_pos {i : Int32} {n : Nat} (h : inb i n = true) : 0 < n := by
  simp only [inb, Bool.and_eq_true, decide_eq_true_eq] at h
  omega
def chk {α : Type} (b : Bool) (k : Option α) : Option α := match b with
  | true => k
  | false => none
theorem chk_some {α : Type} {b : Bool} {k : Option α} {r : α} (h : chk b k = some r) : b = true ∧ k = some r := by
  cases b with
  | true => exact ⟨rfl, h⟩
  | false => cases h
def bnd {α β : Type} (x : Option α) (f : α → Option β) : Option β := match x with
  | none => none
  | some a => f a
theorem bnd_some {α β : Type} {x : Option α} {f : α → Option β} {r : β} (h : bnd x f = some r) : ∃ a, x = some a ∧ f a = some r := by
  cases x with
  | none => cases h
  | some a => exact ⟨a, rfl, h⟩
def nm {α β : Type} (x : α) (f : α → Option β) : Option β := f x
theorem nm_some {α β : Type} {x : α} {f : α → Option β} {r : β} (h : nm x f = some r) : ∃ y, x = y ∧ f y = some r := ⟨x, rfl, h⟩
def itr {σ ρ : Type} : Nat → (σ → Option (σ ⊕ ρ)) → σ → Option ρ
  | 0, _, _ => none
  | n + 1, f, s => match f s with
    | none => none
    | some (.inl t) => itr n f t
    | some (.inr r) => some r
def zEx {σ ρ : Type} (At : σ → Prop) (Ex : ρ → Prop) (x : σ ⊕ ρ) : Prop := match x with
  | .inl t => At t
  | .inr r => Ex r
theorem W_itr {σ ρ : Type} {f : σ → Option (σ ⊕ ρ)} {At : σ → Prop} {Ex : ρ → Prop} (hs : ∀ (s : σ) (x : σ ⊕ ρ), f s = some x → zEx At Ex x → At s) :
    ∀ (n : Nat) (s : σ) (r : ρ), itr n f s = some r → Ex r → At s := by
  intro n
  induction n with
  | zero => intro s r h; cases h
  | succ n ih =>
    intro s r h hr
    unfold itr at h
    cases hf : f s with
    | none => rw [hf] at h; cases h
    | some x =>
      rw [hf] at h
      cases x with
      | inl t => exact hs s _ hf (ih t r h hr)
      | inr q => cases h; exact hs s _ hf hr
def zush (x y : Int32) : Int32 := (x.toUInt32 >>> (y.toUInt32 &&& Int32.toUInt32 31)).toInt32
def zlsh (x : Int64) (y : Int32) : Int64 := x <<< (y.toInt64 &&& 63)
abbrev Mem : Type := (Nat → Nat → Int32) × (Nat → Nat → Int64)
def wI (M : Mem) (k : Nat) (i : Int32) (v : Int32) : Mem := (fun j => if j = k then upd (M.1 k) i.toNatClampNeg v else M.1 j, M.2)
def wL (M : Mem) (k : Nat) (i : Int32) (v : Int64) : Mem := (M.1, fun j => if j = k then vp_updL (M.2 k) i.toNatClampNeg v else M.2 j)
def wF (M : Mem) (k j : Nat) (v : Int32) : Mem := (fun q => if q = k then upd (M.1 k) j v else M.1 q, M.2)
abbrev zG : Type := (Nat → Nat) × (Nat → ClassId) × va_G
def zbl (v : Int32) : Bool := decide (v &&& 1 = v)
theorem zbl_ok {v : Int32} (h : zbl v = true) : narrow .boolean (.int v) = .int v := congrArg Value.int (of_decide_eq_true h)

def zty (G : zG) : List (ClassId × FieldType) := [(G.2.1 0, .int), (G.2.1 1, .long), (G.2.1 2, .boolean), (G.2.1 3, .array .int)]
def zNest : Cond := Cond.methodLinkNest R_Me 86 y_ES_factorial R_ES
def zK (G : zG) (U : State) : Prop := va_K G.2.2 zcl (zty G) U ∧ va_Nw zNest U
theorem zK_same {G : zG} {u U : State} (h : u.vm = U.vm) (hK : zK G u) : zK G U := ⟨va_K.moved (h ▸ Vm.Alike.refl u.vm) hK.1, va_Nw.same rfl h hK.2⟩
theorem zK_warm {G : zG} {s U : State} (hW : s.WarmedH U.vm) (hK : zK G s) : zK G U := ⟨va_K.moved hW.alike hK.1, va_Nw.warmM hW hK.2⟩
def wlC (G : zG) (M : Mem) : va_W := [(G.1 0, .inr (6, [.int (M.1 0 0), .ref (G.1 1), .ref (G.1 9), .ref (G.1 17), .ref (G.1 19), .ref (G.1 24)])),
  (G.1 1, .inr (0, [.ref (G.1 2), .ref (G.1 3), .ref (G.1 4), .ref (G.1 5), .ref (G.1 6), .ref (G.1 7), .ref (G.1 8), .int (M.1 1 7), .int (M.1 1 8)])),
  (G.1 2, .inl (G.2.1 0, 30, .inl (M.1 2))),
  (G.1 3, .inl (G.2.1 0, 30, .inl (M.1 3))),
  (G.1 4, .inl (G.2.1 0, 30, .inl (M.1 4))),
  (G.1 5, .inl (G.2.1 0, 30, .inl (M.1 5))),
  (G.1 6, .inl (G.2.1 0, 30, .inl (M.1 6))),
  (G.1 7, .inl (G.2.1 0, 4, .inl (M.1 7))),
  (G.1 8, .inl (G.2.1 0, 6, .inl (M.1 8))),
  (G.1 9, .inr (1, [.ref (G.1 10), .ref (G.1 11), .int (M.1 9 2)])),
  (G.1 10, .inl (G.2.1 0, 6, .inl (M.1 10))),
  (G.1 11, .inl (G.2.1 3, 5, .inr (.inr (.inr (.inr (fun i => some (G.1 (12 + i)))))))),
  (G.1 12, .inl (G.2.1 0, 6, .inl (M.1 12))),
  (G.1 13, .inl (G.2.1 0, 6, .inl (M.1 13))),
  (G.1 14, .inl (G.2.1 0, 6, .inl (M.1 14))),
  (G.1 15, .inl (G.2.1 0, 6, .inl (M.1 15))),
  (G.1 16, .inl (G.2.1 0, 6, .inl (M.1 16))),
  (G.1 17, .inr (2, [.int (M.1 17 0), .ref (G.1 18)])),
  (G.1 18, .inl (G.2.1 0, 6, .inl (M.1 18))),
  (G.1 19, .inr (4, [.ref (G.1 1), .ref (G.1 9), .ref (G.1 17), .ref (G.1 22), .ref (G.1 20), .ref (G.1 21)])),
  (G.1 20, .inl (G.2.1 0, 6, .inl (M.1 20))),
  (G.1 21, .inl (G.2.1 1, 6, .inr (.inl (M.2 21)))),
  (G.1 22, .inr (3, [.ref (G.1 17), .ref (G.1 23), .int (M.1 22 2), .int (M.1 22 3)])),
  (G.1 23, .inl (G.2.1 0, 6, .inl (M.1 23))),
  (G.1 24, .inr (5, [.int (M.1 24 0), .ref (G.1 1), .ref (G.1 9), .ref (G.1 25), .ref (G.1 26), .ref (G.1 33), .ref (G.1 34), .ref (G.1 35), .ref (G.1 36), .int (M.1 24 9), .int (M.1 24 10)])),
  (G.1 25, .inl (G.2.1 2, 6, .inl (M.1 25))),
  (G.1 26, .inl (G.2.1 3, 6, .inr (.inr (.inr (.inr (fun i => some (G.1 (27 + i)))))))),
  (G.1 27, .inl (G.2.1 0, 6, .inl (M.1 27))),
  (G.1 28, .inl (G.2.1 0, 6, .inl (M.1 28))),
  (G.1 29, .inl (G.2.1 0, 6, .inl (M.1 29))),
  (G.1 30, .inl (G.2.1 0, 6, .inl (M.1 30))),
  (G.1 31, .inl (G.2.1 0, 6, .inl (M.1 31))),
  (G.1 32, .inl (G.2.1 0, 6, .inl (M.1 32))),
  (G.1 33, .inl (G.2.1 0, 6, .inl (M.1 33))),
  (G.1 34, .inl (G.2.1 0, 6, .inl (M.1 34))),
  (G.1 35, .inl (G.2.1 0, 6, .inl (M.1 35))),
  (G.1 36, .inl (G.2.1 0, 6, .inl (M.1 36)))]
def alenC (k : Nat) : Nat := match k with
  | 2 => 30
  | 3 => 30
  | 4 => 30
  | 5 => 30
  | 6 => 30
  | 7 => 4
  | 8 => 6
  | 10 => 6
  | 12 => 6
  | 13 => 6
  | 14 => 6
  | 15 => 6
  | 16 => 6
  | 18 => 6
  | 20 => 6
  | 23 => 6
  | 27 => 6
  | 28 => 6
  | 29 => 6
  | 30 => 6
  | 31 => 6
  | 32 => 6
  | 33 => 6
  | 34 => 6
  | 35 => 6
  | 36 => 6
  | _ => 0
def blenC (k : Nat) : Nat := match k with
  | 25 => 6
  | _ => 0
def llenC (k : Nat) : Nat := match k with
  | 21 => 6
  | _ => 0
theorem wlAC (G : zG) (M : Mem) (k : Nat) (q : Nat × va_E) (h : (wlC G M)[k]? = some q) : q.1 = G.1 k ∧ k < 37 := by
  match k, h with
  | 0, h => cases h; exact ⟨rfl, by decide⟩
  | 1, h => cases h; exact ⟨rfl, by decide⟩
  | 2, h => cases h; exact ⟨rfl, by decide⟩
  | 3, h => cases h; exact ⟨rfl, by decide⟩
  | 4, h => cases h; exact ⟨rfl, by decide⟩
  | 5, h => cases h; exact ⟨rfl, by decide⟩
  | 6, h => cases h; exact ⟨rfl, by decide⟩
  | 7, h => cases h; exact ⟨rfl, by decide⟩
  | 8, h => cases h; exact ⟨rfl, by decide⟩
  | 9, h => cases h; exact ⟨rfl, by decide⟩
  | 10, h => cases h; exact ⟨rfl, by decide⟩
  | 11, h => cases h; exact ⟨rfl, by decide⟩
  | 12, h => cases h; exact ⟨rfl, by decide⟩
  | 13, h => cases h; exact ⟨rfl, by decide⟩
  | 14, h => cases h; exact ⟨rfl, by decide⟩
  | 15, h => cases h; exact ⟨rfl, by decide⟩
  | 16, h => cases h; exact ⟨rfl, by decide⟩
  | 17, h => cases h; exact ⟨rfl, by decide⟩
  | 18, h => cases h; exact ⟨rfl, by decide⟩
  | 19, h => cases h; exact ⟨rfl, by decide⟩
  | 20, h => cases h; exact ⟨rfl, by decide⟩
  | 21, h => cases h; exact ⟨rfl, by decide⟩
  | 22, h => cases h; exact ⟨rfl, by decide⟩
  | 23, h => cases h; exact ⟨rfl, by decide⟩
  | 24, h => cases h; exact ⟨rfl, by decide⟩
  | 25, h => cases h; exact ⟨rfl, by decide⟩
  | 26, h => cases h; exact ⟨rfl, by decide⟩
  | 27, h => cases h; exact ⟨rfl, by decide⟩
  | 28, h => cases h; exact ⟨rfl, by decide⟩
  | 29, h => cases h; exact ⟨rfl, by decide⟩
  | 30, h => cases h; exact ⟨rfl, by decide⟩
  | 31, h => cases h; exact ⟨rfl, by decide⟩
  | 32, h => cases h; exact ⟨rfl, by decide⟩
  | 33, h => cases h; exact ⟨rfl, by decide⟩
  | 34, h => cases h; exact ⟨rfl, by decide⟩
  | 35, h => cases h; exact ⟨rfl, by decide⟩
  | 36, h => cases h; exact ⟨rfl, by decide⟩
  | k + 37, h => cases h
theorem wl_iC (G : zG) (M : Mem) (k : Nat) (h : 0 < alenC k) : (wlC G M)[k]? = some (G.1 k, .inl (G.2.1 0, alenC k, .inl (M.1 k))) := by
  match k, h with
  | 0, h => exact absurd h (by decide)
  | 1, h => exact absurd h (by decide)
  | 2, h => rfl
  | 3, h => rfl
  | 4, h => rfl
  | 5, h => rfl
  | 6, h => rfl
  | 7, h => rfl
  | 8, h => rfl
  | 9, h => exact absurd h (by decide)
  | 10, h => rfl
  | 11, h => exact absurd h (by decide)
  | 12, h => rfl
  | 13, h => rfl
  | 14, h => rfl
  | 15, h => rfl
  | 16, h => rfl
  | 17, h => exact absurd h (by decide)
  | 18, h => rfl
  | 19, h => exact absurd h (by decide)
  | 20, h => rfl
  | 21, h => exact absurd h (by decide)
  | 22, h => exact absurd h (by decide)
  | 23, h => rfl
  | 24, h => exact absurd h (by decide)
  | 25, h => exact absurd h (by decide)
  | 26, h => exact absurd h (by decide)
  | 27, h => rfl
  | 28, h => rfl
  | 29, h => rfl
  | 30, h => rfl
  | 31, h => rfl
  | 32, h => rfl
  | 33, h => rfl
  | 34, h => rfl
  | 35, h => rfl
  | 36, h => rfl
  | k + 37, h => exact absurd h (by simp [alenC])
theorem wl_siC (G : zG) (M : Mem) (k : Nat) (i : Int32) (v : Int32) (h : 0 < alenC k) : (wlC G M).set k (G.1 k, .inl (G.2.1 0, alenC k, .inl (upd (M.1 k) i.toNatClampNeg v))) = wlC G (wI M k i v) := by
  match k, h with
  | 0, h => exact absurd h (by decide)
  | 1, h => exact absurd h (by decide)
  | 2, h => rfl
  | 3, h => rfl
  | 4, h => rfl
  | 5, h => rfl
  | 6, h => rfl
  | 7, h => rfl
  | 8, h => rfl
  | 9, h => exact absurd h (by decide)
  | 10, h => rfl
  | 11, h => exact absurd h (by decide)
  | 12, h => rfl
  | 13, h => rfl
  | 14, h => rfl
  | 15, h => rfl
  | 16, h => rfl
  | 17, h => exact absurd h (by decide)
  | 18, h => rfl
  | 19, h => exact absurd h (by decide)
  | 20, h => rfl
  | 21, h => exact absurd h (by decide)
  | 22, h => exact absurd h (by decide)
  | 23, h => rfl
  | 24, h => exact absurd h (by decide)
  | 25, h => exact absurd h (by decide)
  | 26, h => exact absurd h (by decide)
  | 27, h => rfl
  | 28, h => rfl
  | 29, h => rfl
  | 30, h => rfl
  | 31, h => rfl
  | 32, h => rfl
  | 33, h => rfl
  | 34, h => rfl
  | 35, h => rfl
  | 36, h => rfl
  | k + 37, h => exact absurd h (by simp [alenC])
theorem wl_bC (G : zG) (M : Mem) (k : Nat) (h : 0 < blenC k) : (wlC G M)[k]? = some (G.1 k, .inl (G.2.1 2, blenC k, .inl (M.1 k))) := by
  match k, h with
  | 0, h => exact absurd h (by decide)
  | 1, h => exact absurd h (by decide)
  | 2, h => exact absurd h (by decide)
  | 3, h => exact absurd h (by decide)
  | 4, h => exact absurd h (by decide)
  | 5, h => exact absurd h (by decide)
  | 6, h => exact absurd h (by decide)
  | 7, h => exact absurd h (by decide)
  | 8, h => exact absurd h (by decide)
  | 9, h => exact absurd h (by decide)
  | 10, h => exact absurd h (by decide)
  | 11, h => exact absurd h (by decide)
  | 12, h => exact absurd h (by decide)
  | 13, h => exact absurd h (by decide)
  | 14, h => exact absurd h (by decide)
  | 15, h => exact absurd h (by decide)
  | 16, h => exact absurd h (by decide)
  | 17, h => exact absurd h (by decide)
  | 18, h => exact absurd h (by decide)
  | 19, h => exact absurd h (by decide)
  | 20, h => exact absurd h (by decide)
  | 21, h => exact absurd h (by decide)
  | 22, h => exact absurd h (by decide)
  | 23, h => exact absurd h (by decide)
  | 24, h => exact absurd h (by decide)
  | 25, h => rfl
  | 26, h => exact absurd h (by decide)
  | 27, h => exact absurd h (by decide)
  | 28, h => exact absurd h (by decide)
  | 29, h => exact absurd h (by decide)
  | 30, h => exact absurd h (by decide)
  | 31, h => exact absurd h (by decide)
  | 32, h => exact absurd h (by decide)
  | 33, h => exact absurd h (by decide)
  | 34, h => exact absurd h (by decide)
  | 35, h => exact absurd h (by decide)
  | 36, h => exact absurd h (by decide)
  | k + 37, h => exact absurd h (by simp [blenC])
theorem wl_sbC (G : zG) (M : Mem) (k : Nat) (i : Int32) (v : Int32) (h : 0 < blenC k) : (wlC G M).set k (G.1 k, .inl (G.2.1 2, blenC k, .inl (upd (M.1 k) i.toNatClampNeg v))) = wlC G (wI M k i v) := by
  match k, h with
  | 0, h => exact absurd h (by decide)
  | 1, h => exact absurd h (by decide)
  | 2, h => exact absurd h (by decide)
  | 3, h => exact absurd h (by decide)
  | 4, h => exact absurd h (by decide)
  | 5, h => exact absurd h (by decide)
  | 6, h => exact absurd h (by decide)
  | 7, h => exact absurd h (by decide)
  | 8, h => exact absurd h (by decide)
  | 9, h => exact absurd h (by decide)
  | 10, h => exact absurd h (by decide)
  | 11, h => exact absurd h (by decide)
  | 12, h => exact absurd h (by decide)
  | 13, h => exact absurd h (by decide)
  | 14, h => exact absurd h (by decide)
  | 15, h => exact absurd h (by decide)
  | 16, h => exact absurd h (by decide)
  | 17, h => exact absurd h (by decide)
  | 18, h => exact absurd h (by decide)
  | 19, h => exact absurd h (by decide)
  | 20, h => exact absurd h (by decide)
  | 21, h => exact absurd h (by decide)
  | 22, h => exact absurd h (by decide)
  | 23, h => exact absurd h (by decide)
  | 24, h => exact absurd h (by decide)
  | 25, h => rfl
  | 26, h => exact absurd h (by decide)
  | 27, h => exact absurd h (by decide)
  | 28, h => exact absurd h (by decide)
  | 29, h => exact absurd h (by decide)
  | 30, h => exact absurd h (by decide)
  | 31, h => exact absurd h (by decide)
  | 32, h => exact absurd h (by decide)
  | 33, h => exact absurd h (by decide)
  | 34, h => exact absurd h (by decide)
  | 35, h => exact absurd h (by decide)
  | 36, h => exact absurd h (by decide)
  | k + 37, h => exact absurd h (by simp [blenC])
theorem wl_lC (G : zG) (M : Mem) (k : Nat) (h : 0 < llenC k) : (wlC G M)[k]? = some (G.1 k, .inl (G.2.1 1, llenC k, .inr (.inl (M.2 k)))) := by
  match k, h with
  | 0, h => exact absurd h (by decide)
  | 1, h => exact absurd h (by decide)
  | 2, h => exact absurd h (by decide)
  | 3, h => exact absurd h (by decide)
  | 4, h => exact absurd h (by decide)
  | 5, h => exact absurd h (by decide)
  | 6, h => exact absurd h (by decide)
  | 7, h => exact absurd h (by decide)
  | 8, h => exact absurd h (by decide)
  | 9, h => exact absurd h (by decide)
  | 10, h => exact absurd h (by decide)
  | 11, h => exact absurd h (by decide)
  | 12, h => exact absurd h (by decide)
  | 13, h => exact absurd h (by decide)
  | 14, h => exact absurd h (by decide)
  | 15, h => exact absurd h (by decide)
  | 16, h => exact absurd h (by decide)
  | 17, h => exact absurd h (by decide)
  | 18, h => exact absurd h (by decide)
  | 19, h => exact absurd h (by decide)
  | 20, h => exact absurd h (by decide)
  | 21, h => rfl
  | 22, h => exact absurd h (by decide)
  | 23, h => exact absurd h (by decide)
  | 24, h => exact absurd h (by decide)
  | 25, h => exact absurd h (by decide)
  | 26, h => exact absurd h (by decide)
  | 27, h => exact absurd h (by decide)
  | 28, h => exact absurd h (by decide)
  | 29, h => exact absurd h (by decide)
  | 30, h => exact absurd h (by decide)
  | 31, h => exact absurd h (by decide)
  | 32, h => exact absurd h (by decide)
  | 33, h => exact absurd h (by decide)
  | 34, h => exact absurd h (by decide)
  | 35, h => exact absurd h (by decide)
  | 36, h => exact absurd h (by decide)
  | k + 37, h => exact absurd h (by simp [llenC])
theorem wl_slC (G : zG) (M : Mem) (k : Nat) (i : Int32) (v : Int64) (h : 0 < llenC k) : (wlC G M).set k (G.1 k, .inl (G.2.1 1, llenC k, .inr (.inl (vp_updL (M.2 k) i.toNatClampNeg v)))) = wlC G (wL M k i v) := by
  match k, h with
  | 0, h => exact absurd h (by decide)
  | 1, h => exact absurd h (by decide)
  | 2, h => exact absurd h (by decide)
  | 3, h => exact absurd h (by decide)
  | 4, h => exact absurd h (by decide)
  | 5, h => exact absurd h (by decide)
  | 6, h => exact absurd h (by decide)
  | 7, h => exact absurd h (by decide)
  | 8, h => exact absurd h (by decide)
  | 9, h => exact absurd h (by decide)
  | 10, h => exact absurd h (by decide)
  | 11, h => exact absurd h (by decide)
  | 12, h => exact absurd h (by decide)
  | 13, h => exact absurd h (by decide)
  | 14, h => exact absurd h (by decide)
  | 15, h => exact absurd h (by decide)
  | 16, h => exact absurd h (by decide)
  | 17, h => exact absurd h (by decide)
  | 18, h => exact absurd h (by decide)
  | 19, h => exact absurd h (by decide)
  | 20, h => exact absurd h (by decide)
  | 21, h => rfl
  | 22, h => exact absurd h (by decide)
  | 23, h => exact absurd h (by decide)
  | 24, h => exact absurd h (by decide)
  | 25, h => exact absurd h (by decide)
  | 26, h => exact absurd h (by decide)
  | 27, h => exact absurd h (by decide)
  | 28, h => exact absurd h (by decide)
  | 29, h => exact absurd h (by decide)
  | 30, h => exact absurd h (by decide)
  | 31, h => exact absurd h (by decide)
  | 32, h => exact absurd h (by decide)
  | 33, h => exact absurd h (by decide)
  | 34, h => exact absurd h (by decide)
  | 35, h => exact absurd h (by decide)
  | 36, h => exact absurd h (by decide)
  | k + 37, h => exact absurd h (by simp [llenC])
def wlT (G : zG) (M : Mem) : va_W := [(G.1 0, .inr (7, [.int (M.1 0 0), .int (M.1 0 1), .int (M.1 0 2), .ref (G.1 1), .ref (G.1 2), .ref (G.1 3), .ref (G.1 4), .ref (G.1 5), .int (M.1 0 8), .ref (G.1 6), .ref (G.1 7), .ref (G.1 8), .ref (G.1 9), .int (M.1 0 13), .ref (G.1 10), .ref (G.1 11), .ref (G.1 12), .int (M.1 0 17), .ref (G.1 13), .ref (G.1 14), .ref (G.1 15), .ref (G.1 16), .ref (G.1 17), .int (M.1 0 23), .int (M.1 0 24)])),
  (G.1 1, .inl (G.2.1 2, 30, .inl (M.1 1))),
  (G.1 2, .inl (G.2.1 0, 30, .inl (M.1 2))),
  (G.1 3, .inl (G.2.1 0, 30, .inl (M.1 3))),
  (G.1 4, .inl (G.2.1 0, 30, .inl (M.1 4))),
  (G.1 5, .inl (G.2.1 0, 30, .inl (M.1 5))),
  (G.1 6, .inl (G.2.1 0, 4, .inl (M.1 6))),
  (G.1 7, .inl (G.2.1 0, 6, .inl (M.1 7))),
  (G.1 8, .inl (G.2.1 0, 6, .inl (M.1 8))),
  (G.1 9, .inl (G.2.1 2, 6, .inl (M.1 9))),
  (G.1 10, .inl (G.2.1 0, 36, .inl (M.1 10))),
  (G.1 11, .inl (G.2.1 0, 6, .inl (M.1 11))),
  (G.1 12, .inl (G.2.1 1, 64, .inr (.inl (M.2 12)))),
  (G.1 13, .inl (G.2.1 0, 6, .inl (M.1 13))),
  (G.1 14, .inl (G.2.1 0, 6, .inl (M.1 14))),
  (G.1 15, .inl (G.2.1 1, 6, .inr (.inl (M.2 15)))),
  (G.1 16, .inl (G.2.1 0, 6, .inl (M.1 16))),
  (G.1 17, .inl (G.2.1 0, 6, .inl (M.1 17)))]
def alenT (k : Nat) : Nat := match k with
  | 2 => 30
  | 3 => 30
  | 4 => 30
  | 5 => 30
  | 6 => 4
  | 7 => 6
  | 8 => 6
  | 10 => 36
  | 11 => 6
  | 13 => 6
  | 14 => 6
  | 16 => 6
  | 17 => 6
  | _ => 0
def blenT (k : Nat) : Nat := match k with
  | 1 => 30
  | 9 => 6
  | _ => 0
def llenT (k : Nat) : Nat := match k with
  | 12 => 64
  | 15 => 6
  | _ => 0
theorem wlAT (G : zG) (M : Mem) (k : Nat) (q : Nat × va_E) (h : (wlT G M)[k]? = some q) : q.1 = G.1 k ∧ k < 18 := by
  match k, h with
  | 0, h => cases h; exact ⟨rfl, by decide⟩
  | 1, h => cases h; exact ⟨rfl, by decide⟩
  | 2, h => cases h; exact ⟨rfl, by decide⟩
  | 3, h => cases h; exact ⟨rfl, by decide⟩
  | 4, h => cases h; exact ⟨rfl, by decide⟩
  | 5, h => cases h; exact ⟨rfl, by decide⟩
  | 6, h => cases h; exact ⟨rfl, by decide⟩
  | 7, h => cases h; exact ⟨rfl, by decide⟩
  | 8, h => cases h; exact ⟨rfl, by decide⟩
  | 9, h => cases h; exact ⟨rfl, by decide⟩
  | 10, h => cases h; exact ⟨rfl, by decide⟩
  | 11, h => cases h; exact ⟨rfl, by decide⟩
  | 12, h => cases h; exact ⟨rfl, by decide⟩
  | 13, h => cases h; exact ⟨rfl, by decide⟩
  | 14, h => cases h; exact ⟨rfl, by decide⟩
  | 15, h => cases h; exact ⟨rfl, by decide⟩
  | 16, h => cases h; exact ⟨rfl, by decide⟩
  | 17, h => cases h; exact ⟨rfl, by decide⟩
  | k + 18, h => cases h
theorem wl_iT (G : zG) (M : Mem) (k : Nat) (h : 0 < alenT k) : (wlT G M)[k]? = some (G.1 k, .inl (G.2.1 0, alenT k, .inl (M.1 k))) := by
  match k, h with
  | 0, h => exact absurd h (by decide)
  | 1, h => exact absurd h (by decide)
  | 2, h => rfl
  | 3, h => rfl
  | 4, h => rfl
  | 5, h => rfl
  | 6, h => rfl
  | 7, h => rfl
  | 8, h => rfl
  | 9, h => exact absurd h (by decide)
  | 10, h => rfl
  | 11, h => rfl
  | 12, h => exact absurd h (by decide)
  | 13, h => rfl
  | 14, h => rfl
  | 15, h => exact absurd h (by decide)
  | 16, h => rfl
  | 17, h => rfl
  | k + 18, h => exact absurd h (by simp [alenT])
theorem wl_siT (G : zG) (M : Mem) (k : Nat) (i : Int32) (v : Int32) (h : 0 < alenT k) : (wlT G M).set k (G.1 k, .inl (G.2.1 0, alenT k, .inl (upd (M.1 k) i.toNatClampNeg v))) = wlT G (wI M k i v) := by
  match k, h with
  | 0, h => exact absurd h (by decide)
  | 1, h => exact absurd h (by decide)
  | 2, h => rfl
  | 3, h => rfl
  | 4, h => rfl
  | 5, h => rfl
  | 6, h => rfl
  | 7, h => rfl
  | 8, h => rfl
  | 9, h => exact absurd h (by decide)
  | 10, h => rfl
  | 11, h => rfl
  | 12, h => exact absurd h (by decide)
  | 13, h => rfl
  | 14, h => rfl
  | 15, h => exact absurd h (by decide)
  | 16, h => rfl
  | 17, h => rfl
  | k + 18, h => exact absurd h (by simp [alenT])
theorem wl_bT (G : zG) (M : Mem) (k : Nat) (h : 0 < blenT k) : (wlT G M)[k]? = some (G.1 k, .inl (G.2.1 2, blenT k, .inl (M.1 k))) := by
  match k, h with
  | 0, h => exact absurd h (by decide)
  | 1, h => rfl
  | 2, h => exact absurd h (by decide)
  | 3, h => exact absurd h (by decide)
  | 4, h => exact absurd h (by decide)
  | 5, h => exact absurd h (by decide)
  | 6, h => exact absurd h (by decide)
  | 7, h => exact absurd h (by decide)
  | 8, h => exact absurd h (by decide)
  | 9, h => rfl
  | 10, h => exact absurd h (by decide)
  | 11, h => exact absurd h (by decide)
  | 12, h => exact absurd h (by decide)
  | 13, h => exact absurd h (by decide)
  | 14, h => exact absurd h (by decide)
  | 15, h => exact absurd h (by decide)
  | 16, h => exact absurd h (by decide)
  | 17, h => exact absurd h (by decide)
  | k + 18, h => exact absurd h (by simp [blenT])
theorem wl_sbT (G : zG) (M : Mem) (k : Nat) (i : Int32) (v : Int32) (h : 0 < blenT k) : (wlT G M).set k (G.1 k, .inl (G.2.1 2, blenT k, .inl (upd (M.1 k) i.toNatClampNeg v))) = wlT G (wI M k i v) := by
  match k, h with
  | 0, h => exact absurd h (by decide)
  | 1, h => rfl
  | 2, h => exact absurd h (by decide)
  | 3, h => exact absurd h (by decide)
  | 4, h => exact absurd h (by decide)
  | 5, h => exact absurd h (by decide)
  | 6, h => exact absurd h (by decide)
  | 7, h => exact absurd h (by decide)
  | 8, h => exact absurd h (by decide)
  | 9, h => rfl
  | 10, h => exact absurd h (by decide)
  | 11, h => exact absurd h (by decide)
  | 12, h => exact absurd h (by decide)
  | 13, h => exact absurd h (by decide)
  | 14, h => exact absurd h (by decide)
  | 15, h => exact absurd h (by decide)
  | 16, h => exact absurd h (by decide)
  | 17, h => exact absurd h (by decide)
  | k + 18, h => exact absurd h (by simp [blenT])
theorem wl_lT (G : zG) (M : Mem) (k : Nat) (h : 0 < llenT k) : (wlT G M)[k]? = some (G.1 k, .inl (G.2.1 1, llenT k, .inr (.inl (M.2 k)))) := by
  match k, h with
  | 0, h => exact absurd h (by decide)
  | 1, h => exact absurd h (by decide)
  | 2, h => exact absurd h (by decide)
  | 3, h => exact absurd h (by decide)
  | 4, h => exact absurd h (by decide)
  | 5, h => exact absurd h (by decide)
  | 6, h => exact absurd h (by decide)
  | 7, h => exact absurd h (by decide)
  | 8, h => exact absurd h (by decide)
  | 9, h => exact absurd h (by decide)
  | 10, h => exact absurd h (by decide)
  | 11, h => exact absurd h (by decide)
  | 12, h => rfl
  | 13, h => exact absurd h (by decide)
  | 14, h => exact absurd h (by decide)
  | 15, h => rfl
  | 16, h => exact absurd h (by decide)
  | 17, h => exact absurd h (by decide)
  | k + 18, h => exact absurd h (by simp [llenT])
theorem wl_slT (G : zG) (M : Mem) (k : Nat) (i : Int32) (v : Int64) (h : 0 < llenT k) : (wlT G M).set k (G.1 k, .inl (G.2.1 1, llenT k, .inr (.inl (vp_updL (M.2 k) i.toNatClampNeg v)))) = wlT G (wL M k i v) := by
  match k, h with
  | 0, h => exact absurd h (by decide)
  | 1, h => exact absurd h (by decide)
  | 2, h => exact absurd h (by decide)
  | 3, h => exact absurd h (by decide)
  | 4, h => exact absurd h (by decide)
  | 5, h => exact absurd h (by decide)
  | 6, h => exact absurd h (by decide)
  | 7, h => exact absurd h (by decide)
  | 8, h => exact absurd h (by decide)
  | 9, h => exact absurd h (by decide)
  | 10, h => exact absurd h (by decide)
  | 11, h => exact absurd h (by decide)
  | 12, h => rfl
  | 13, h => exact absurd h (by decide)
  | 14, h => exact absurd h (by decide)
  | 15, h => rfl
  | 16, h => exact absurd h (by decide)
  | 17, h => exact absurd h (by decide)
  | k + 18, h => exact absurd h (by simp [llenT])
end
section
/-! the machine's rows over the world wlC: one list of cells, cell k at the address G.1 k -/
def zIC (G : zG) : Prop := ∀ i j : Nat, i < 37 → j < 37 → G.1 i = G.1 j → i = j
def zAC (G : zG) (sz : Nat) : Nat → Prop := fun q => (∃ k : Nat, k < 37 ∧ q = G.1 k) ∨ sz ≤ q
theorem wlDC {G : zG} (hI : zIC G) (M : Mem) (sz : Nat) : va_D (zAC G sz) (wlC G M) := by
  refine ⟨fun i j p q hi hj e => ?_, fun k q hk => ?_⟩
  · obtain ⟨a1, a2⟩ := wlAC G M i p hi
    obtain ⟨b1, b2⟩ := wlAC G M j q hj
    exact hI i j a2 b2 (by rw [← a1, ← b1]; exact e)
  · obtain ⟨a1, a2⟩ := wlAC G M k q hk
    exact Or.inl ⟨k, a2, a1⟩
def ZZC (G : zG) (s : State) (M : Mem) (H : Heap) (locs : List Loc) : Prop := zIC G ∧ zK G s ∧ va_P G.2.2 zcl (wlC G M) H ∧ va_S (zAC G s.heap.size) s.heap H locs
def zQC (G : zG) (sz : Nat) (res : Option Value) (M : Mem) : Array Value → State → Outcome → State → Prop := fun _ st oc t => oc = .returned res ∧ va_P G.2.2 zcl (wlC G M) t.heap ∧ va_F (zAC G sz) st t
def zPC (G : zG) (sz : Nat) (av : List Value) (M : Mem) : Array Value → State → Prop := va_Pc av (fun U => U.heap.size = sz ∧ zIC G ∧ zK G U ∧ va_P G.2.2 zcl (wlC G M) U.heap)
def MetZC (l : Launch) (G : zG) (y : MethodName) (ws : List Cond) (rm : Room) (av : List Value) (M : Mem) (res : Option Value) (M2 : Mem) : Prop :=
  ∀ sz : Nat, Met l y ws rm (zPC G sz av M) (zQC G sz res M2) 0 0 (zAC G sz)
def zFC (p : Program) (R : Room) (s : State) (m : MethodId) (args : Array Value) (below : List Frame) (meth : Method) (c : Code) (Q : State → Prop) (G : zG) (cc : ByteArray) (maxL : Nat) (ret : Option FieldType) (own : String) (rm : Room) (res : Option Value) (M2 : Mem) : Prop :=
  p.tables.exec = Jvm.exec ∧ c.code = cc ∧ c.maxLocals = maxL ∧ meth.sig.returnType = ret ∧ (∀ w ∈ zws, w.before args s = true) ∧ s.vm.findClass own = some m.cls ∧ meth.locks = false ∧ R = rm ∧ Q = MQ below (zQC G s.heap.size res M2) args s 0 0 (zAC G s.heap.size)
theorem z_ofWC {l : Launch} {G : zG} {y : MethodName} {cc : ByteArray} {maxL : Nat} {ret : Option FieldType} {rm : Room} {av : List Value} {M M2 : Mem} {res : Option Value} {lv : List (Nat × Value)} (hy : plainName y.cls = true) (hn : (lg_sl av).length ≤ maxL) (hlv : lv_args 0 av = lv)
    (body : ∀ (p : Program) (e : Env) (R : Room) (s : State) (m : MethodId) (args : Array Value) (below : List Frame) (meth : Method) (c : Code) (Q : State → Prop) (ls : Array Slot), zFC p R s m args below meth c Q G cc maxL ret y.cls rm res M2 → lv_has ls maxL lv → ZZC G s M s.heap [] → W p l e R s m args below meth c s.heap [] 0 0 Q (F0 m 0 ls [])) :
    MetZC l G y (Cond.code y cc maxL ret :: zws) rm av M res M2 := by
  intro sz
  refine Met.ofW (cc := cc) (maxL := maxL) (ret := ret) hy rfl ?_
  intro p e s m args below meth c s₁ B hml hv
  obtain ⟨rfl, hsz, hI, hK, hP⟩ := hv
  subst hsz
  have hts := atoms_spec (ws := Cond.code y cc maxL ret :: zws) B.pre
  have hl := lv_entry av (n := maxL) hn
  rw [lg_entry_eq]
  generalize (lg_sl av ++ List.replicate (maxL - (lg_sl av).length) Slot.unset).toArray = ls at hl ⊢
  exact body p e _ s m av.toArray below meth c _ ls ⟨B.exec, B.bytes, hml, B.returns, fun w hw => hts w (List.mem_cons_of_mem _ hw), findClass_of_methodNamed B.named, B.notSynchronized, rfl, rfl⟩ (by rw [← hlv]; exact hl) ⟨hI, hK, hP, va_S.rf⟩
section ZRC
variable {p : Program} {l : Launch} {e : Env} {R : Room} {s : State} {m : MethodId} {args : Array Value} {below : List Frame} {meth : Method} {c : Code} {H : Heap} {locs : List Loc} {cells slots : Nat} {Q : State → Prop}
variable {cc : ByteArray} {pc : Nat} {ls : Array Slot} {rest : List Value} {G : zG} {M : Mem} {k : Nat} {i : Int32}
theorem z_ialoadC (hx0 : p.tables.exec = Jvm.exec) (hb : c.code = cc) (hZ : ZZC G s M H locs) (hi : inb i (alenC k) = true) (hdg : decode cc pc = .ok (.iaload, 1)) (kk : W p l e R s m args below meth c H locs cells slots Q (F0 m (pc + 1) ls (.int (M.1 k i.toNatClampNeg) :: rest))) : W p l e R s m args below meth c H locs cells slots Q (F0 m pc ls (.int i :: .ref (G.1 k) :: rest)) :=
  va_iald hx0 hb hZ.2.1.1 hZ.2.2.1 k 0 (wl_iC G M k (inb_pos hi)) rfl (inb_in hi) hdg kk
theorem z_iastoreC {v : Int32} (hx0 : p.tables.exec = Jvm.exec) (hb : c.code = cc) (hZ : ZZC G s M H locs) (hi : inb i (alenC k) = true) (hdg : decode cc pc = .ok (.iastore, 1)) (kk : ∀ (H1 : Heap) (locs1 : List Loc), ZZC G s (wI M k i v) H1 locs1 → W p l e R s m args below meth c H1 locs1 cells slots Q (F0 m (pc + 1) ls rest)) : W p l e R s m args below meth c H locs cells slots Q (F0 m pc ls (.int v :: .int i :: .ref (G.1 k) :: rest)) :=
  va_iast hx0 hb hZ.2.1.1 hZ.2.2.1 (wlDC hZ.1 M s.heap.size) hZ.2.2.2 k 0 (wl_iC G M k (inb_pos hi)) rfl (inb_in hi) hdg (fun H1 locs1 hP _ hS => kk H1 locs1 ⟨hZ.1, hZ.2.1, by rw [← wl_siC G M k i v (inb_pos hi)]; exact hP, hS⟩)
theorem z_baloadC (hx0 : p.tables.exec = Jvm.exec) (hb : c.code = cc) (hZ : ZZC G s M H locs) (hi : inb i (blenC k) = true) (hdg : decode cc pc = .ok (.baload, 1)) (kk : W p l e R s m args below meth c H locs cells slots Q (F0 m (pc + 1) ls (.int (M.1 k i.toNatClampNeg) :: rest))) : W p l e R s m args below meth c H locs cells slots Q (F0 m pc ls (.int i :: .ref (G.1 k) :: rest)) :=
  va_zald hx0 hb hZ.2.1.1 hZ.2.2.1 k 2 (wl_bC G M k (inb_pos hi)) rfl (inb_in hi) hdg kk
theorem z_bastoreC {v : Int32} (hx0 : p.tables.exec = Jvm.exec) (hb : c.code = cc) (hZ : ZZC G s M H locs) (hi : inb i (blenC k) = true) (hdg : decode cc pc = .ok (.bastore, 1)) (kk : ∀ (H1 : Heap) (locs1 : List Loc), ZZC G s (wI M k i (vp_nar .boolean v)) H1 locs1 → W p l e R s m args below meth c H1 locs1 cells slots Q (F0 m (pc + 1) ls rest)) : W p l e R s m args below meth c H locs cells slots Q (F0 m pc ls (.int v :: .int i :: .ref (G.1 k) :: rest)) :=
  va_zast hx0 hb hZ.2.1.1 hZ.2.2.1 (wlDC hZ.1 M s.heap.size) hZ.2.2.2 k 2 (wl_bC G M k (inb_pos hi)) rfl (inb_in hi) hdg (fun H1 locs1 hP _ hS => kk H1 locs1 ⟨hZ.1, hZ.2.1, by rw [← wl_sbC G M k i _ (inb_pos hi)]; exact hP, hS⟩)
theorem z_laloadC (hx0 : p.tables.exec = Jvm.exec) (hb : c.code = cc) (hZ : ZZC G s M H locs) (hi : inb i (llenC k) = true) (hdg : decode cc pc = .ok (.laload, 1)) (kk : W p l e R s m args below meth c H locs cells slots Q (F0 m (pc + 1) ls (.long (M.2 k i.toNatClampNeg) :: rest))) : W p l e R s m args below meth c H locs cells slots Q (F0 m pc ls (.int i :: .ref (G.1 k) :: rest)) :=
  va_lald hx0 hb hZ.2.1.1 hZ.2.2.1 k 1 (wl_lC G M k (inb_pos hi)) rfl (inb_in hi) hdg kk
theorem z_lastoreC {v : Int64} (hx0 : p.tables.exec = Jvm.exec) (hb : c.code = cc) (hZ : ZZC G s M H locs) (hi : inb i (llenC k) = true) (hdg : decode cc pc = .ok (.lastore, 1)) (kk : ∀ (H1 : Heap) (locs1 : List Loc), ZZC G s (wL M k i v) H1 locs1 → W p l e R s m args below meth c H1 locs1 cells slots Q (F0 m (pc + 1) ls rest)) : W p l e R s m args below meth c H locs cells slots Q (F0 m pc ls (.long v :: .int i :: .ref (G.1 k) :: rest)) :=
  va_last hx0 hb hZ.2.1.1 hZ.2.2.1 (wlDC hZ.1 M s.heap.size) hZ.2.2.2 k 1 (wl_lC G M k (inb_pos hi)) rfl (inb_in hi) hdg (fun H1 locs1 hP _ hS => kk H1 locs1 ⟨hZ.1, hZ.2.1, by rw [← wl_slC G M k i v (inb_pos hi)]; exact hP, hS⟩)
theorem z_alenC (hx0 : p.tables.exec = Jvm.exec) (hb : c.code = cc) (hZ : ZZC G s M H locs) (hi : 0 < alenC k) (hdg : decode cc pc = .ok (.arraylength, 1)) (kk : W p l e R s m args below meth c H locs cells slots Q (F0 m (pc + 1) ls (.int (nI (alenC k)) :: rest))) : W p l e R s m args below meth c H locs cells slots Q (F0 m pc ls (.ref (G.1 k) :: rest)) :=
  va_alen hx0 hb hZ.2.1.1 hZ.2.2.1 k 0 (wl_iC G M k hi) rfl rfl hdg kk
theorem z_iretC {cc : ByteArray} {M2 : Mem} {v : Int32} (hx0 : p.tables.exec = Jvm.exec) (hb : c.code = cc) (hr : meth.sig.returnType = some .int) (hZ : ZZC G s M2 H locs) (hlocks : meth.locks = false) (hQ : Q = MQ below (zQC G s.heap.size (some (.int v)) M2) args s 0 0 (zAC G s.heap.size)) (hdg : decode cc pc = .ok (.ireturn, 1)) : W p l e R s m args below meth c H locs 0 0 Q (F0 m pc ls [.int v]) := by
  subst hQ
  exact W.iret (v := v) hx0 hb hr (fun t ht _ => ⟨rfl, by rw [ht]; exact hZ.2.2.1, hZ.2.2.2.F ht⟩) hZ.2.2.2.2.2 hdg hlocks
theorem z_zretC {cc : ByteArray} {M2 : Mem} {v : Int32} (hx0 : p.tables.exec = Jvm.exec) (hb : c.code = cc) (hr : meth.sig.returnType = some .boolean) (hZ : ZZC G s M2 H locs) (hlocks : meth.locks = false) (hQ : Q = MQ below (zQC G s.heap.size (some (.int v)) M2) args s 0 0 (zAC G s.heap.size)) (hn : narrow .boolean (.int v) = .int v) (hdg : decode cc pc = .ok (.ireturn, 1)) : W p l e R s m args below meth c H locs 0 0 Q (F0 m pc ls [.int v]) := by
  subst hQ
  exact W.zret (v := v) hx0 hb hr hn (fun t ht _ => ⟨rfl, by rw [ht]; exact hZ.2.2.1, hZ.2.2.2.F ht⟩) hZ.2.2.2.2.2 hdg hlocks
theorem z_lretC {cc : ByteArray} {M2 : Mem} {v : Int64} (hx0 : p.tables.exec = Jvm.exec) (hb : c.code = cc) (hr : meth.sig.returnType = some .long) (hZ : ZZC G s M2 H locs) (hlocks : meth.locks = false) (hQ : Q = MQ below (zQC G s.heap.size (some (.long v)) M2) args s 0 0 (zAC G s.heap.size)) (hdg : decode cc pc = .ok (.lreturn, 1)) : W p l e R s m args below meth c H locs 0 0 Q (F0 m pc ls [.long v]) := by
  subst hQ
  exact W.lret (v := v) hx0 hb hr (fun t ht _ => ⟨rfl, by rw [ht]; exact hZ.2.2.1, hZ.2.2.2.F ht⟩) hZ.2.2.2.2.2 hdg hlocks
theorem z_aretC {cc : ByteArray} {M2 : Mem} {a : Nat} (hx0 : p.tables.exec = Jvm.exec) (hb : c.code = cc) (hr : meth.sig.returnType = some (.array .int)) (hZ : ZZC G s M2 H locs) (hlocks : meth.locks = false) (hQ : Q = MQ below (zQC G s.heap.size (some (.ref a)) M2) args s 0 0 (zAC G s.heap.size)) (hdg : decode cc pc = .ok (.areturn, 1)) : W p l e R s m args below meth c H locs 0 0 Q (F0 m pc ls [.ref a]) := by
  subst hQ
  exact W.aret (v := .ref a) hx0 hb hr (Or.inr ⟨_, rfl⟩) (Or.inr ⟨_, rfl⟩) (fun t ht _ => ⟨rfl, by rw [ht]; exact hZ.2.2.1, hZ.2.2.2.F ht⟩) hZ.2.2.2.2.2 hdg hlocks
theorem z_vretC {cc : ByteArray} {M2 : Mem} (hx0 : p.tables.exec = Jvm.exec) (hb : c.code = cc) (hr : meth.sig.returnType = none) (hZ : ZZC G s M2 H locs) (hlocks : meth.locks = false) (hQ : Q = MQ below (zQC G s.heap.size none M2) args s 0 0 (zAC G s.heap.size)) (hdg : decode cc pc = .ok (.return_, 1)) : W p l e R s m args below meth c H locs 0 0 Q (F0 m pc ls []) := by
  subst hQ
  exact W.vret hx0 hb hr (fun t ht _ => ⟨rfl, by rw [ht]; exact hZ.2.2.1, hZ.2.2.2.F ht⟩) hZ.2.2.2.2.2 hdg hlocks
theorem z_runC {st0 : List Value} {res : Option Value} {M2 : Mem} {a : Array Value} (hr : va_Run p l e R s m args below meth c H locs cells slots 0 0 (F0 m pc ls st0) rest (zQC G H.size res M2 a) (zAC G H.size)) (hZ : ZZC G s M H locs)
    (kk : ∀ (H1 : Heap) (locs1 : List Loc), ZZC G s M2 H1 locs1 → W p l e R s m args below meth c H1 locs1 cells slots Q (F0 m (pc + 3) ls (res.toList ++ rest))) : W p l e R s m args below meth c H locs cells slots Q (F0 m pc ls st0) := by
  intro T hT X
  obtain ⟨v, st₀, t, T', L, h0, X', hL, e1, e2, ⟨hv, hP, hz, hk⟩, st⟩ := hr T hT X
  obtain rfl : v = res := by injection hv
  rw [h0] at hz hk
  obtain ⟨hI, hK0, hP0, hS⟩ := hZ
  have hA : ∀ q, zAC G H.size q → zAC G s.heap.size q := fun q h => h.elim Or.inl (fun h => Or.inr (Nat.le_trans hS.1 h))
  obtain ⟨t2, a1, b1⟩ := kk T'.heap (locs ++ L) ⟨hI, hK0, by rw [e1]; exact hP,
    ⟨Nat.le_trans hS.1 (by rw [e1]; exact hz), fun q h1 h2 => by rw [e1, hk q (Nat.lt_of_lt_of_le h1 hS.1) (fun z => h2 (hA q z))]; exact hS.2.1 q h1 h2, fun q hq => by
      rcases List.mem_append.mp hq with h | h
      · exact hS.2.2 q h
      · exact hA _ (hL q h)⟩⟩ T' rfl X'
  exact ⟨t2, st t2 a1, b1⟩
theorem zP_blindC {sz : Nat} {av : List Value} : FrameBlind (zPC G sz av M) := fun a U g mk q => by
  obtain ⟨q0, q1, qI, qK, qP⟩ := q
  exact ⟨q0, q1, qI, zK_same (u := U) (U := U.calling g mk a) rfl qK, qP⟩
theorem zP_atC {av : List Value} (hZ : ZZC G s M H locs) : ∀ U : State, U.heap = H → s.WarmedH U.vm → zPC G H.size av M av.toArray U := fun U hU hW => ⟨rfl, by rw [hU], hZ.1, zK_warm hW hZ.2.1, by rw [hU]; exact hZ.2.2.1⟩
end ZRC
/-! the machine's rows over the world wlT: one list of cells, cell k at the address G.1 k -/
def zIT (G : zG) : Prop := ∀ i j : Nat, i < 18 → j < 18 → G.1 i = G.1 j → i = j
def zAT (G : zG) (sz : Nat) : Nat → Prop := fun q => (∃ k : Nat, k < 18 ∧ q = G.1 k) ∨ sz ≤ q
theorem wlDT {G : zG} (hI : zIT G) (M : Mem) (sz : Nat) : va_D (zAT G sz) (wlT G M) := by
  refine ⟨fun i j p q hi hj e => ?_, fun k q hk => ?_⟩
  · obtain ⟨a1, a2⟩ := wlAT G M i p hi
    obtain ⟨b1, b2⟩ := wlAT G M j q hj
    exact hI i j a2 b2 (by rw [← a1, ← b1]; exact e)
  · obtain ⟨a1, a2⟩ := wlAT G M k q hk
    exact Or.inl ⟨k, a2, a1⟩
def ZZT (G : zG) (s : State) (M : Mem) (H : Heap) (locs : List Loc) : Prop := zIT G ∧ zK G s ∧ va_P G.2.2 zcl (wlT G M) H ∧ va_S (zAT G s.heap.size) s.heap H locs
def zQT (G : zG) (sz : Nat) (res : Option Value) (M : Mem) : Array Value → State → Outcome → State → Prop := fun _ st oc t => oc = .returned res ∧ va_P G.2.2 zcl (wlT G M) t.heap ∧ va_F (zAT G sz) st t
def zPT (G : zG) (sz : Nat) (av : List Value) (M : Mem) : Array Value → State → Prop := va_Pc av (fun U => U.heap.size = sz ∧ zIT G ∧ zK G U ∧ va_P G.2.2 zcl (wlT G M) U.heap)
def MetZT (l : Launch) (G : zG) (y : MethodName) (ws : List Cond) (rm : Room) (av : List Value) (M : Mem) (res : Option Value) (M2 : Mem) : Prop :=
  ∀ sz : Nat, Met l y ws rm (zPT G sz av M) (zQT G sz res M2) 0 0 (zAT G sz)
def zFT (p : Program) (R : Room) (s : State) (m : MethodId) (args : Array Value) (below : List Frame) (meth : Method) (c : Code) (Q : State → Prop) (G : zG) (cc : ByteArray) (maxL : Nat) (ret : Option FieldType) (own : String) (rm : Room) (res : Option Value) (M2 : Mem) : Prop :=
  p.tables.exec = Jvm.exec ∧ c.code = cc ∧ c.maxLocals = maxL ∧ meth.sig.returnType = ret ∧ (∀ w ∈ zws, w.before args s = true) ∧ s.vm.findClass own = some m.cls ∧ meth.locks = false ∧ R = rm ∧ Q = MQ below (zQT G s.heap.size res M2) args s 0 0 (zAT G s.heap.size)
theorem z_ofWT {l : Launch} {G : zG} {y : MethodName} {cc : ByteArray} {maxL : Nat} {ret : Option FieldType} {rm : Room} {av : List Value} {M M2 : Mem} {res : Option Value} {lv : List (Nat × Value)} (hy : plainName y.cls = true) (hn : (lg_sl av).length ≤ maxL) (hlv : lv_args 0 av = lv)
    (body : ∀ (p : Program) (e : Env) (R : Room) (s : State) (m : MethodId) (args : Array Value) (below : List Frame) (meth : Method) (c : Code) (Q : State → Prop) (ls : Array Slot), zFT p R s m args below meth c Q G cc maxL ret y.cls rm res M2 → lv_has ls maxL lv → ZZT G s M s.heap [] → W p l e R s m args below meth c s.heap [] 0 0 Q (F0 m 0 ls [])) :
    MetZT l G y (Cond.code y cc maxL ret :: zws) rm av M res M2 := by
  intro sz
  refine Met.ofW (cc := cc) (maxL := maxL) (ret := ret) hy rfl ?_
  intro p e s m args below meth c s₁ B hml hv
  obtain ⟨rfl, hsz, hI, hK, hP⟩ := hv
  subst hsz
  have hts := atoms_spec (ws := Cond.code y cc maxL ret :: zws) B.pre
  have hl := lv_entry av (n := maxL) hn
  rw [lg_entry_eq]
  generalize (lg_sl av ++ List.replicate (maxL - (lg_sl av).length) Slot.unset).toArray = ls at hl ⊢
  exact body p e _ s m av.toArray below meth c _ ls ⟨B.exec, B.bytes, hml, B.returns, fun w hw => hts w (List.mem_cons_of_mem _ hw), findClass_of_methodNamed B.named, B.notSynchronized, rfl, rfl⟩ (by rw [← hlv]; exact hl) ⟨hI, hK, hP, va_S.rf⟩
section ZRT
variable {p : Program} {l : Launch} {e : Env} {R : Room} {s : State} {m : MethodId} {args : Array Value} {below : List Frame} {meth : Method} {c : Code} {H : Heap} {locs : List Loc} {cells slots : Nat} {Q : State → Prop}
variable {cc : ByteArray} {pc : Nat} {ls : Array Slot} {rest : List Value} {G : zG} {M : Mem} {k : Nat} {i : Int32}
theorem z_ialoadT (hx0 : p.tables.exec = Jvm.exec) (hb : c.code = cc) (hZ : ZZT G s M H locs) (hi : inb i (alenT k) = true) (hdg : decode cc pc = .ok (.iaload, 1)) (kk : W p l e R s m args below meth c H locs cells slots Q (F0 m (pc + 1) ls (.int (M.1 k i.toNatClampNeg) :: rest))) : W p l e R s m args below meth c H locs cells slots Q (F0 m pc ls (.int i :: .ref (G.1 k) :: rest)) :=
  va_iald hx0 hb hZ.2.1.1 hZ.2.2.1 k 0 (wl_iT G M k (inb_pos hi)) rfl (inb_in hi) hdg kk
theorem z_iastoreT {v : Int32} (hx0 : p.tables.exec = Jvm.exec) (hb : c.code = cc) (hZ : ZZT G s M H locs) (hi : inb i (alenT k) = true) (hdg : decode cc pc = .ok (.iastore, 1)) (kk : ∀ (H1 : Heap) (locs1 : List Loc), ZZT G s (wI M k i v) H1 locs1 → W p l e R s m args below meth c H1 locs1 cells slots Q (F0 m (pc + 1) ls rest)) : W p l e R s m args below meth c H locs cells slots Q (F0 m pc ls (.int v :: .int i :: .ref (G.1 k) :: rest)) :=
  va_iast hx0 hb hZ.2.1.1 hZ.2.2.1 (wlDT hZ.1 M s.heap.size) hZ.2.2.2 k 0 (wl_iT G M k (inb_pos hi)) rfl (inb_in hi) hdg (fun H1 locs1 hP _ hS => kk H1 locs1 ⟨hZ.1, hZ.2.1, by rw [← wl_siT G M k i v (inb_pos hi)]; exact hP, hS⟩)
theorem z_baloadT (hx0 : p.tables.exec = Jvm.exec) (hb : c.code = cc) (hZ : ZZT G s M H locs) (hi : inb i (blenT k) = true) (hdg : decode cc pc = .ok (.baload, 1)) (kk : W p l e R s m args below meth c H locs cells slots Q (F0 m (pc + 1) ls (.int (M.1 k i.toNatClampNeg) :: rest))) : W p l e R s m args below meth c H locs cells slots Q (F0 m pc ls (.int i :: .ref (G.1 k) :: rest)) :=
  va_zald hx0 hb hZ.2.1.1 hZ.2.2.1 k 2 (wl_bT G M k (inb_pos hi)) rfl (inb_in hi) hdg kk
theorem z_bastoreT {v : Int32} (hx0 : p.tables.exec = Jvm.exec) (hb : c.code = cc) (hZ : ZZT G s M H locs) (hi : inb i (blenT k) = true) (hdg : decode cc pc = .ok (.bastore, 1)) (kk : ∀ (H1 : Heap) (locs1 : List Loc), ZZT G s (wI M k i (vp_nar .boolean v)) H1 locs1 → W p l e R s m args below meth c H1 locs1 cells slots Q (F0 m (pc + 1) ls rest)) : W p l e R s m args below meth c H locs cells slots Q (F0 m pc ls (.int v :: .int i :: .ref (G.1 k) :: rest)) :=
  va_zast hx0 hb hZ.2.1.1 hZ.2.2.1 (wlDT hZ.1 M s.heap.size) hZ.2.2.2 k 2 (wl_bT G M k (inb_pos hi)) rfl (inb_in hi) hdg (fun H1 locs1 hP _ hS => kk H1 locs1 ⟨hZ.1, hZ.2.1, by rw [← wl_sbT G M k i _ (inb_pos hi)]; exact hP, hS⟩)
theorem z_laloadT (hx0 : p.tables.exec = Jvm.exec) (hb : c.code = cc) (hZ : ZZT G s M H locs) (hi : inb i (llenT k) = true) (hdg : decode cc pc = .ok (.laload, 1)) (kk : W p l e R s m args below meth c H locs cells slots Q (F0 m (pc + 1) ls (.long (M.2 k i.toNatClampNeg) :: rest))) : W p l e R s m args below meth c H locs cells slots Q (F0 m pc ls (.int i :: .ref (G.1 k) :: rest)) :=
  va_lald hx0 hb hZ.2.1.1 hZ.2.2.1 k 1 (wl_lT G M k (inb_pos hi)) rfl (inb_in hi) hdg kk
theorem z_lastoreT {v : Int64} (hx0 : p.tables.exec = Jvm.exec) (hb : c.code = cc) (hZ : ZZT G s M H locs) (hi : inb i (llenT k) = true) (hdg : decode cc pc = .ok (.lastore, 1)) (kk : ∀ (H1 : Heap) (locs1 : List Loc), ZZT G s (wL M k i v) H1 locs1 → W p l e R s m args below meth c H1 locs1 cells slots Q (F0 m (pc + 1) ls rest)) : W p l e R s m args below meth c H locs cells slots Q (F0 m pc ls (.long v :: .int i :: .ref (G.1 k) :: rest)) :=
  va_last hx0 hb hZ.2.1.1 hZ.2.2.1 (wlDT hZ.1 M s.heap.size) hZ.2.2.2 k 1 (wl_lT G M k (inb_pos hi)) rfl (inb_in hi) hdg (fun H1 locs1 hP _ hS => kk H1 locs1 ⟨hZ.1, hZ.2.1, by rw [← wl_slT G M k i v (inb_pos hi)]; exact hP, hS⟩)
theorem z_alenT (hx0 : p.tables.exec = Jvm.exec) (hb : c.code = cc) (hZ : ZZT G s M H locs) (hi : 0 < alenT k) (hdg : decode cc pc = .ok (.arraylength, 1)) (kk : W p l e R s m args below meth c H locs cells slots Q (F0 m (pc + 1) ls (.int (nI (alenT k)) :: rest))) : W p l e R s m args below meth c H locs cells slots Q (F0 m pc ls (.ref (G.1 k) :: rest)) :=
  va_alen hx0 hb hZ.2.1.1 hZ.2.2.1 k 0 (wl_iT G M k hi) rfl rfl hdg kk
theorem z_iretT {cc : ByteArray} {M2 : Mem} {v : Int32} (hx0 : p.tables.exec = Jvm.exec) (hb : c.code = cc) (hr : meth.sig.returnType = some .int) (hZ : ZZT G s M2 H locs) (hlocks : meth.locks = false) (hQ : Q = MQ below (zQT G s.heap.size (some (.int v)) M2) args s 0 0 (zAT G s.heap.size)) (hdg : decode cc pc = .ok (.ireturn, 1)) : W p l e R s m args below meth c H locs 0 0 Q (F0 m pc ls [.int v]) := by
  subst hQ
  exact W.iret (v := v) hx0 hb hr (fun t ht _ => ⟨rfl, by rw [ht]; exact hZ.2.2.1, hZ.2.2.2.F ht⟩) hZ.2.2.2.2.2 hdg hlocks
theorem z_zretT {cc : ByteArray} {M2 : Mem} {v : Int32} (hx0 : p.tables.exec = Jvm.exec) (hb : c.code = cc) (hr : meth.sig.returnType = some .boolean) (hZ : ZZT G s M2 H locs) (hlocks : meth.locks = false) (hQ : Q = MQ below (zQT G s.heap.size (some (.int v)) M2) args s 0 0 (zAT G s.heap.size)) (hn : narrow .boolean (.int v) = .int v) (hdg : decode cc pc = .ok (.ireturn, 1)) : W p l e R s m args below meth c H locs 0 0 Q (F0 m pc ls [.int v]) := by
  subst hQ
  exact W.zret (v := v) hx0 hb hr hn (fun t ht _ => ⟨rfl, by rw [ht]; exact hZ.2.2.1, hZ.2.2.2.F ht⟩) hZ.2.2.2.2.2 hdg hlocks
theorem z_lretT {cc : ByteArray} {M2 : Mem} {v : Int64} (hx0 : p.tables.exec = Jvm.exec) (hb : c.code = cc) (hr : meth.sig.returnType = some .long) (hZ : ZZT G s M2 H locs) (hlocks : meth.locks = false) (hQ : Q = MQ below (zQT G s.heap.size (some (.long v)) M2) args s 0 0 (zAT G s.heap.size)) (hdg : decode cc pc = .ok (.lreturn, 1)) : W p l e R s m args below meth c H locs 0 0 Q (F0 m pc ls [.long v]) := by
  subst hQ
  exact W.lret (v := v) hx0 hb hr (fun t ht _ => ⟨rfl, by rw [ht]; exact hZ.2.2.1, hZ.2.2.2.F ht⟩) hZ.2.2.2.2.2 hdg hlocks
theorem z_aretT {cc : ByteArray} {M2 : Mem} {a : Nat} (hx0 : p.tables.exec = Jvm.exec) (hb : c.code = cc) (hr : meth.sig.returnType = some (.array .int)) (hZ : ZZT G s M2 H locs) (hlocks : meth.locks = false) (hQ : Q = MQ below (zQT G s.heap.size (some (.ref a)) M2) args s 0 0 (zAT G s.heap.size)) (hdg : decode cc pc = .ok (.areturn, 1)) : W p l e R s m args below meth c H locs 0 0 Q (F0 m pc ls [.ref a]) := by
  subst hQ
  exact W.aret (v := .ref a) hx0 hb hr (Or.inr ⟨_, rfl⟩) (Or.inr ⟨_, rfl⟩) (fun t ht _ => ⟨rfl, by rw [ht]; exact hZ.2.2.1, hZ.2.2.2.F ht⟩) hZ.2.2.2.2.2 hdg hlocks
theorem z_vretT {cc : ByteArray} {M2 : Mem} (hx0 : p.tables.exec = Jvm.exec) (hb : c.code = cc) (hr : meth.sig.returnType = none) (hZ : ZZT G s M2 H locs) (hlocks : meth.locks = false) (hQ : Q = MQ below (zQT G s.heap.size none M2) args s 0 0 (zAT G s.heap.size)) (hdg : decode cc pc = .ok (.return_, 1)) : W p l e R s m args below meth c H locs 0 0 Q (F0 m pc ls []) := by
  subst hQ
  exact W.vret hx0 hb hr (fun t ht _ => ⟨rfl, by rw [ht]; exact hZ.2.2.1, hZ.2.2.2.F ht⟩) hZ.2.2.2.2.2 hdg hlocks
theorem z_runT {st0 : List Value} {res : Option Value} {M2 : Mem} {a : Array Value} (hr : va_Run p l e R s m args below meth c H locs cells slots 0 0 (F0 m pc ls st0) rest (zQT G H.size res M2 a) (zAT G H.size)) (hZ : ZZT G s M H locs)
    (kk : ∀ (H1 : Heap) (locs1 : List Loc), ZZT G s M2 H1 locs1 → W p l e R s m args below meth c H1 locs1 cells slots Q (F0 m (pc + 3) ls (res.toList ++ rest))) : W p l e R s m args below meth c H locs cells slots Q (F0 m pc ls st0) := by
  intro T hT X
  obtain ⟨v, st₀, t, T', L, h0, X', hL, e1, e2, ⟨hv, hP, hz, hk⟩, st⟩ := hr T hT X
  obtain rfl : v = res := by injection hv
  rw [h0] at hz hk
  obtain ⟨hI, hK0, hP0, hS⟩ := hZ
  have hA : ∀ q, zAT G H.size q → zAT G s.heap.size q := fun q h => h.elim Or.inl (fun h => Or.inr (Nat.le_trans hS.1 h))
  obtain ⟨t2, a1, b1⟩ := kk T'.heap (locs ++ L) ⟨hI, hK0, by rw [e1]; exact hP,
    ⟨Nat.le_trans hS.1 (by rw [e1]; exact hz), fun q h1 h2 => by rw [e1, hk q (Nat.lt_of_lt_of_le h1 hS.1) (fun z => h2 (hA q z))]; exact hS.2.1 q h1 h2, fun q hq => by
      rcases List.mem_append.mp hq with h | h
      · exact hS.2.2 q h
      · exact hA _ (hL q h)⟩⟩ T' rfl X'
  exact ⟨t2, st t2 a1, b1⟩
theorem zP_blindT {sz : Nat} {av : List Value} : FrameBlind (zPT G sz av M) := fun a U g mk q => by
  obtain ⟨q0, q1, qI, qK, qP⟩ := q
  exact ⟨q0, q1, qI, zK_same (u := U) (U := U.calling g mk a) rfl qK, qP⟩
theorem zP_atT {av : List Value} (hZ : ZZT G s M H locs) : ∀ U : State, U.heap = H → s.WarmedH U.vm → zPT G H.size av M av.toArray U := fun U hU hW => ⟨rfl, by rw [hU], hZ.1, zK_warm hW hZ.2.1, by rw [hU]; exact hZ.2.2.1⟩
end ZRT
end
