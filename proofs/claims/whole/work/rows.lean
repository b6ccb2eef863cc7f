section
-- ===== PART A: goes FIRST, ahead of the names: the tables' words, and 'selects' of the private methods out of them =====
/-- a private method of a class that the tables say can be made, by its rows of tables_1 -/
def lw_okq (q : MethodName × Nat) : Prop := (q.1.cls ≠ "java/lang/invoke/MethodHandle" ∧ q.1.cls ≠ "java/lang/invoke/VarHandle") ∧ Cond.instantiable q.1.cls q.2 ∈ tables_1 ∧ Cond.privateMethod q.1 ∈ tables_1 ∧ Cond.instanceMethod q.1 ∈ tables_1
theorem lw_p0 : lw_okq (⟨"ExactShares2$Learner", "addNode", "(IIII)I"⟩, 9) := ⟨⟨by decide +kernel, by decide +kernel⟩, List.mem_of_getElem? (i := 30) (by decide +kernel), List.mem_of_getElem? (i := 218) (by decide +kernel), List.mem_of_getElem? (i := 219) (by decide +kernel)⟩
theorem lw_p1 : lw_okq (⟨"ExactShares2", "isColumn", "(I)Z"⟩, 6) := ⟨⟨by decide +kernel, by decide +kernel⟩, List.mem_of_getElem? (i := 16) (by decide +kernel), List.mem_of_getElem? (i := 226) (by decide +kernel), List.mem_of_getElem? (i := 227) (by decide +kernel)⟩
theorem lw_p2 : lw_okq (⟨"ExactShares2$Learner", "givenBy", "(I[I)I"⟩, 9) := ⟨⟨by decide +kernel, by decide +kernel⟩, List.mem_of_getElem? (i := 30) (by decide +kernel), List.mem_of_getElem? (i := 311) (by decide +kernel), List.mem_of_getElem? (i := 312) (by decide +kernel)⟩
theorem lw_p3 : lw_okq (⟨"ExactShares2$Means", "brought", "(II)J"⟩, 6) := ⟨⟨by decide +kernel, by decide +kernel⟩, List.mem_of_getElem? (i := 100) (by decide +kernel), List.mem_of_getElem? (i := 357) (by decide +kernel), List.mem_of_getElem? (i := 358) (by decide +kernel)⟩
theorem lw_p4 : lw_okq (⟨"ExactShares2$Means", "mix", "(I[I[I)V"⟩, 6) := ⟨⟨by decide +kernel, by decide +kernel⟩, List.mem_of_getElem? (i := 100) (by decide +kernel), List.mem_of_getElem? (i := 367) (by decide +kernel), List.mem_of_getElem? (i := 368) (by decide +kernel)⟩
theorem lw_p5 : lw_okq (⟨"ExactShares2$Means", "countAhead", "(II)I"⟩, 6) := ⟨⟨by decide +kernel, by decide +kernel⟩, List.mem_of_getElem? (i := 100) (by decide +kernel), List.mem_of_getElem? (i := 379) (by decide +kernel), List.mem_of_getElem? (i := 380) (by decide +kernel)⟩
theorem lw_p6 : lw_okq (⟨"ExactShares2$Search", "gatherChoices", "(I)V"⟩, 11) := ⟨⟨by decide +kernel, by decide +kernel⟩, List.mem_of_getElem? (i := 145) (by decide +kernel), List.mem_of_getElem? (i := 399) (by decide +kernel), List.mem_of_getElem? (i := 400) (by decide +kernel)⟩
theorem lw_p7 : lw_okq (⟨"ExactShares2$Search", "addChoice", "(II)V"⟩, 11) := ⟨⟨by decide +kernel, by decide +kernel⟩, List.mem_of_getElem? (i := 145) (by decide +kernel), List.mem_of_getElem? (i := 404) (by decide +kernel), List.mem_of_getElem? (i := 405) (by decide +kernel)⟩
theorem lw_p8 : lw_okq (⟨"ExactShares2$Search", "open", "(I)V"⟩, 11) := ⟨⟨by decide +kernel, by decide +kernel⟩, List.mem_of_getElem? (i := 145) (by decide +kernel), List.mem_of_getElem? (i := 409) (by decide +kernel), List.mem_of_getElem? (i := 410) (by decide +kernel)⟩
theorem lw_p9 : lw_okq (⟨"ExactShares2$Search", "visit", "(II)V"⟩, 11) := ⟨⟨by decide +kernel, by decide +kernel⟩, List.mem_of_getElem? (i := 145) (by decide +kernel), List.mem_of_getElem? (i := 413) (by decide +kernel), List.mem_of_getElem? (i := 414) (by decide +kernel)⟩
theorem lw_p10 : lw_okq (⟨"ExactShares2$Learner", "peakOf", "(I[I[I)I"⟩, 9) := ⟨⟨by decide +kernel, by decide +kernel⟩, List.mem_of_getElem? (i := 30) (by decide +kernel), List.mem_of_getElem? (i := 421) (by decide +kernel), List.mem_of_getElem? (i := 422) (by decide +kernel)⟩
theorem lw_p11 : lw_okq (⟨"ExactShares2$Search", "settle", "(II)V"⟩, 11) := ⟨⟨by decide +kernel, by decide +kernel⟩, List.mem_of_getElem? (i := 145) (by decide +kernel), List.mem_of_getElem? (i := 426) (by decide +kernel), List.mem_of_getElem? (i := 427) (by decide +kernel)⟩
theorem lw_p12 : lw_okq (⟨"ExactShares2$Search", "costOf", "(II)I"⟩, 11) := ⟨⟨by decide +kernel, by decide +kernel⟩, List.mem_of_getElem? (i := 145) (by decide +kernel), List.mem_of_getElem? (i := 430) (by decide +kernel), List.mem_of_getElem? (i := 431) (by decide +kernel)⟩
theorem lw_p13 : lw_okq (⟨"ExactShares2$Search", "keep", "(I)V"⟩, 11) := ⟨⟨by decide +kernel, by decide +kernel⟩, List.mem_of_getElem? (i := 145) (by decide +kernel), List.mem_of_getElem? (i := 437) (by decide +kernel), List.mem_of_getElem? (i := 438) (by decide +kernel)⟩
theorem lw_p14 : lw_okq (⟨"java/lang/Throwable", "fillInStackTrace", "(I)Ljava/lang/Throwable;"⟩, 6) := ⟨⟨by decide +kernel, by decide +kernel⟩, List.mem_of_getElem? (i := 507) (by decide +kernel), List.mem_of_getElem? (i := 505) (by decide +kernel), List.mem_of_getElem? (i := 506) (by decide +kernel)⟩
theorem lw_p15 : lw_okq (⟨"ExactShares2$Orders", "lineUp", "()V"⟩, 4) := ⟨⟨by decide +kernel, by decide +kernel⟩, List.mem_of_getElem? (i := 106) (by decide +kernel), List.mem_of_getElem? (i := 595) (by decide +kernel), List.mem_of_getElem? (i := 596) (by decide +kernel)⟩
def lw_privs_1 : List (MethodName × Nat) := [(⟨"ExactShares2$Learner", "addNode", "(IIII)I"⟩, 9), (⟨"ExactShares2", "isColumn", "(I)Z"⟩, 6), (⟨"ExactShares2$Learner", "givenBy", "(I[I)I"⟩, 9), (⟨"ExactShares2$Means", "brought", "(II)J"⟩, 6), (⟨"ExactShares2$Means", "mix", "(I[I[I)V"⟩, 6), (⟨"ExactShares2$Means", "countAhead", "(II)I"⟩, 6), (⟨"ExactShares2$Search", "gatherChoices", "(I)V"⟩, 11), (⟨"ExactShares2$Search", "addChoice", "(II)V"⟩, 11), (⟨"ExactShares2$Search", "open", "(I)V"⟩, 11), (⟨"ExactShares2$Search", "visit", "(II)V"⟩, 11), (⟨"ExactShares2$Learner", "peakOf", "(I[I[I)I"⟩, 9), (⟨"ExactShares2$Search", "settle", "(II)V"⟩, 11), (⟨"ExactShares2$Search", "costOf", "(II)I"⟩, 11), (⟨"ExactShares2$Search", "keep", "(I)V"⟩, 11), (⟨"java/lang/Throwable", "fillInStackTrace", "(I)Ljava/lang/Throwable;"⟩, 6), (⟨"ExactShares2$Orders", "lineUp", "()V"⟩, 4)]
theorem lw_r1 : ∀ q ∈ lw_privs_1, lw_okq q := List.forall_mem_cons.mpr ⟨lw_p0, List.forall_mem_cons.mpr ⟨lw_p1, List.forall_mem_cons.mpr ⟨lw_p2, List.forall_mem_cons.mpr ⟨lw_p3, List.forall_mem_cons.mpr ⟨lw_p4, List.forall_mem_cons.mpr ⟨lw_p5, List.forall_mem_cons.mpr ⟨lw_p6, List.forall_mem_cons.mpr ⟨lw_p7, List.forall_mem_cons.mpr ⟨lw_p8, List.forall_mem_cons.mpr ⟨lw_p9, List.forall_mem_cons.mpr ⟨lw_p10, List.forall_mem_cons.mpr ⟨lw_p11, List.forall_mem_cons.mpr ⟨lw_p12, List.forall_mem_cons.mpr ⟨lw_p13, List.forall_mem_cons.mpr ⟨lw_p14, List.forall_mem_cons.mpr ⟨lw_p15, fun _ h => absurd h List.not_mem_nil⟩⟩⟩⟩⟩⟩⟩⟩⟩⟩⟩⟩⟩⟩⟩⟩
theorem lw_p16 : lw_okq (⟨"ExactShares2$Orders", "below", "(I)I"⟩, 4) := ⟨⟨by decide +kernel, by decide +kernel⟩, List.mem_of_getElem? (i := 106) (by decide +kernel), List.mem_of_getElem? (i := 600) (by decide +kernel), List.mem_of_getElem? (i := 601) (by decide +kernel)⟩
theorem lw_p17 : lw_okq (⟨"ExactShares2$Means", "sumWith", "([III)J"⟩, 6) := ⟨⟨by decide +kernel, by decide +kernel⟩, List.mem_of_getElem? (i := 100) (by decide +kernel), List.mem_of_getElem? (i := 620) (by decide +kernel), List.mem_of_getElem? (i := 621) (by decide +kernel)⟩
theorem lw_p18 : lw_okq (⟨"ExactShares2Model", "isColumn", "(I)Z"⟩, 25) := ⟨⟨by decide +kernel, by decide +kernel⟩, List.mem_of_getElem? (i := 635) (by decide +kernel), List.mem_of_getElem? (i := 736) (by decide +kernel), List.mem_of_getElem? (i := 737) (by decide +kernel)⟩
theorem lw_p19 : lw_okq (⟨"ExactShares2Model", "take", "(I)V"⟩, 25) := ⟨⟨by decide +kernel, by decide +kernel⟩, List.mem_of_getElem? (i := 635) (by decide +kernel), List.mem_of_getElem? (i := 766) (by decide +kernel), List.mem_of_getElem? (i := 767) (by decide +kernel)⟩
theorem lw_p20 : lw_okq (⟨"ExactShares2Model", "answerNow", "()J"⟩, 25) := ⟨⟨by decide +kernel, by decide +kernel⟩, List.mem_of_getElem? (i := 635) (by decide +kernel), List.mem_of_getElem? (i := 770) (by decide +kernel), List.mem_of_getElem? (i := 771) (by decide +kernel)⟩
theorem lw_p21 : lw_okq (⟨"ExactShares2Model", "throwsNow", "()Z"⟩, 25) := ⟨⟨by decide +kernel, by decide +kernel⟩, List.mem_of_getElem? (i := 635) (by decide +kernel), List.mem_of_getElem? (i := 778) (by decide +kernel), List.mem_of_getElem? (i := 779) (by decide +kernel)⟩
theorem lw_p22 : lw_okq (⟨"ExactShares2Model", "sumAll", "()V"⟩, 25) := ⟨⟨by decide +kernel, by decide +kernel⟩, List.mem_of_getElem? (i := 635) (by decide +kernel), List.mem_of_getElem? (i := 782) (by decide +kernel), List.mem_of_getElem? (i := 783) (by decide +kernel)⟩
theorem lw_p23 : lw_okq (⟨"ExactShares2Model", "groupBits", "(I)I"⟩, 25) := ⟨⟨by decide +kernel, by decide +kernel⟩, List.mem_of_getElem? (i := 635) (by decide +kernel), List.mem_of_getElem? (i := 793) (by decide +kernel), List.mem_of_getElem? (i := 794) (by decide +kernel)⟩
theorem lw_p24 : lw_okq (⟨"ExactShares2Model", "shareSum", "(I)J"⟩, 25) := ⟨⟨by decide +kernel, by decide +kernel⟩, List.mem_of_getElem? (i := 635) (by decide +kernel), List.mem_of_getElem? (i := 797) (by decide +kernel), List.mem_of_getElem? (i := 798) (by decide +kernel)⟩
theorem lw_p25 : lw_okq (⟨"ExactShares2Model", "listParts", "(II)V"⟩, 25) := ⟨⟨by decide +kernel, by decide +kernel⟩, List.mem_of_getElem? (i := 635) (by decide +kernel), List.mem_of_getElem? (i := 801) (by decide +kernel), List.mem_of_getElem? (i := 802) (by decide +kernel)⟩
theorem lw_p26 : lw_okq (⟨"ExactShares2Model", "orders", "()I"⟩, 25) := ⟨⟨by decide +kernel, by decide +kernel⟩, List.mem_of_getElem? (i := 635) (by decide +kernel), List.mem_of_getElem? (i := 805) (by decide +kernel), List.mem_of_getElem? (i := 806) (by decide +kernel)⟩
theorem lw_p27 : lw_okq (⟨"ExactShares2Model", "layOrder", "(I)V"⟩, 25) := ⟨⟨by decide +kernel, by decide +kernel⟩, List.mem_of_getElem? (i := 635) (by decide +kernel), List.mem_of_getElem? (i := 809) (by decide +kernel), List.mem_of_getElem? (i := 810) (by decide +kernel)⟩
theorem lw_p28 : lw_okq (⟨"ExactShares2Model", "before", "(I)I"⟩, 25) := ⟨⟨by decide +kernel, by decide +kernel⟩, List.mem_of_getElem? (i := 635) (by decide +kernel), List.mem_of_getElem? (i := 813) (by decide +kernel), List.mem_of_getElem? (i := 814) (by decide +kernel)⟩
theorem lw_p29 : lw_okq (⟨"ExactShares2Model", "setSum", "(I)J"⟩, 25) := ⟨⟨by decide +kernel, by decide +kernel⟩, List.mem_of_getElem? (i := 635) (by decide +kernel), List.mem_of_getElem? (i := 817) (by decide +kernel), List.mem_of_getElem? (i := 818) (by decide +kernel)⟩
theorem lw_p30 : lw_okq (⟨"ExactShares2Model", "findSizes", "()V"⟩, 25) := ⟨⟨by decide +kernel, by decide +kernel⟩, List.mem_of_getElem? (i := 635) (by decide +kernel), List.mem_of_getElem? (i := 842) (by decide +kernel), List.mem_of_getElem? (i := 843) (by decide +kernel)⟩
theorem lw_p31 : lw_okq (⟨"ExactShares2Model", "findNearest", "(I)Z"⟩, 25) := ⟨⟨by decide +kernel, by decide +kernel⟩, List.mem_of_getElem? (i := 635) (by decide +kernel), List.mem_of_getElem? (i := 854) (by decide +kernel), List.mem_of_getElem? (i := 855) (by decide +kernel)⟩
def lw_privs_2 : List (MethodName × Nat) := [(⟨"ExactShares2$Orders", "below", "(I)I"⟩, 4), (⟨"ExactShares2$Means", "sumWith", "([III)J"⟩, 6), (⟨"ExactShares2Model", "isColumn", "(I)Z"⟩, 25), (⟨"ExactShares2Model", "take", "(I)V"⟩, 25), (⟨"ExactShares2Model", "answerNow", "()J"⟩, 25), (⟨"ExactShares2Model", "throwsNow", "()Z"⟩, 25), (⟨"ExactShares2Model", "sumAll", "()V"⟩, 25), (⟨"ExactShares2Model", "groupBits", "(I)I"⟩, 25), (⟨"ExactShares2Model", "shareSum", "(I)J"⟩, 25), (⟨"ExactShares2Model", "listParts", "(II)V"⟩, 25), (⟨"ExactShares2Model", "orders", "()I"⟩, 25), (⟨"ExactShares2Model", "layOrder", "(I)V"⟩, 25), (⟨"ExactShares2Model", "before", "(I)I"⟩, 25), (⟨"ExactShares2Model", "setSum", "(I)J"⟩, 25), (⟨"ExactShares2Model", "findSizes", "()V"⟩, 25), (⟨"ExactShares2Model", "findNearest", "(I)Z"⟩, 25)]
theorem lw_r2 : ∀ q ∈ lw_privs_2, lw_okq q := List.forall_mem_cons.mpr ⟨lw_p16, List.forall_mem_cons.mpr ⟨lw_p17, List.forall_mem_cons.mpr ⟨lw_p18, List.forall_mem_cons.mpr ⟨lw_p19, List.forall_mem_cons.mpr ⟨lw_p20, List.forall_mem_cons.mpr ⟨lw_p21, List.forall_mem_cons.mpr ⟨lw_p22, List.forall_mem_cons.mpr ⟨lw_p23, List.forall_mem_cons.mpr ⟨lw_p24, List.forall_mem_cons.mpr ⟨lw_p25, List.forall_mem_cons.mpr ⟨lw_p26, List.forall_mem_cons.mpr ⟨lw_p27, List.forall_mem_cons.mpr ⟨lw_p28, List.forall_mem_cons.mpr ⟨lw_p29, List.forall_mem_cons.mpr ⟨lw_p30, List.forall_mem_cons.mpr ⟨lw_p31, fun _ h => absurd h List.not_mem_nil⟩⟩⟩⟩⟩⟩⟩⟩⟩⟩⟩⟩⟩⟩⟩⟩
theorem lw_p32 : lw_okq (⟨"ExactShares2Model", "hold", "(Z)V"⟩, 25) := ⟨⟨by decide +kernel, by decide +kernel⟩, List.mem_of_getElem? (i := 635) (by decide +kernel), List.mem_of_getElem? (i := 858) (by decide +kernel), List.mem_of_getElem? (i := 859) (by decide +kernel)⟩
theorem lw_p33 : lw_okq (⟨"ExactShares2Model", "next", "(I)I"⟩, 25) := ⟨⟨by decide +kernel, by decide +kernel⟩, List.mem_of_getElem? (i := 635) (by decide +kernel), List.mem_of_getElem? (i := 862) (by decide +kernel), List.mem_of_getElem? (i := 863) (by decide +kernel)⟩
def lw_privs_3 : List (MethodName × Nat) := [(⟨"ExactShares2Model", "hold", "(Z)V"⟩, 25), (⟨"ExactShares2Model", "next", "(I)I"⟩, 25)]
theorem lw_r3 : ∀ q ∈ lw_privs_3, lw_okq q := List.forall_mem_cons.mpr ⟨lw_p32, List.forall_mem_cons.mpr ⟨lw_p33, fun _ h => absurd h List.not_mem_nil⟩⟩
def lw_privs : List (MethodName × Nat) := lw_privs_1 ++ (lw_privs_2 ++ (lw_privs_3))
def lw_tbl : List Cond := k2_sels lw_privs ++ tables_1
theorem lw_privs_ok : ∀ q ∈ lw_privs, lw_okq q := by
  show ∀ q ∈ lw_privs_1 ++ (lw_privs_2 ++ (lw_privs_3)), lw_okq q
  exact List.forall_mem_append.mpr ⟨lw_r1, List.forall_mem_append.mpr ⟨lw_r2, lw_r3⟩⟩
end
section
/-! names: by my program out of the Statement -/
def R_Ln : String := "ExactShares2$Learner"
def F_Ln : u_T := fun k => match k with
  | 0 => ("ExactShares2$Learner", "columnOf", "[I", true)
  | 1 => ("ExactShares2$Learner", "numberOf", "[I", true)
  | 2 => ("ExactShares2$Learner", "lowOf", "[I", true)
  | 3 => ("ExactShares2$Learner", "highOf", "[I", true)
  | 4 => ("ExactShares2$Learner", "peaks", "[I", true)
  | 5 => ("ExactShares2$Learner", "roots", "[I", true)
  | 6 => ("ExactShares2$Learner", "weights", "[I", true)
  | 7 => ("ExactShares2$Learner", "nodeCount", "I", false)
  | _ => ("ExactShares2$Learner", "rootCount", "I", false)
def t_Ln : Nat → FieldType := fun k => match k with
  | 0 => .array .int
  | 1 => .array .int
  | 2 => .array .int
  | 3 => .array .int
  | 4 => .array .int
  | 5 => .array .int
  | 6 => .array .int
  | 7 => .int
  | _ => .int
theorem n_Ln : ∀ a, a < 9 → ∀ b, b < 9 → a ≠ b → (F_Ln a).2.1 ≠ (F_Ln b).2.1 := by decide +kernel
theorem t_Ln_ok : ∀ k, k < 9 → parseFieldDescriptor (F_Ln k).2.2.1 = some (t_Ln k) := by decide +kernel
def R_Rw : String := "ExactShares2$Rows"
def F_Rw : u_T := fun k => match k with
  | 0 => ("ExactShares2$Rows", "looked", "[I", true)
  | 1 => ("ExactShares2$Rows", "behind", "[[I", true)
  | _ => ("ExactShares2$Rows", "count", "I", false)
def t_Rw : Nat → FieldType := fun k => match k with
  | 0 => .array .int
  | 1 => .array (.array .int)
  | _ => .int
theorem n_Rw : ∀ a, a < 3 → ∀ b, b < 3 → a ≠ b → (F_Rw a).2.1 ≠ (F_Rw b).2.1 := by decide +kernel
theorem t_Rw_ok : ∀ k, k < 3 → parseFieldDescriptor (F_Rw k).2.2.1 = some (t_Rw k) := by decide +kernel
def R_Gr : String := "ExactShares2$Groups"
def F_Gr : u_T := fun k => match k with
  | 0 => ("ExactShares2$Groups", "columns", "I", true)
  | _ => ("ExactShares2$Groups", "groupOf", "[I", true)
def t_Gr : Nat → FieldType := fun k => match k with
  | 0 => .int
  | _ => .array .int
theorem n_Gr : ∀ a, a < 2 → ∀ b, b < 2 → a ≠ b → (F_Gr a).2.1 ≠ (F_Gr b).2.1 := by decide +kernel
theorem t_Gr_ok : ∀ k, k < 2 → parseFieldDescriptor (F_Gr k).2.2.1 = some (t_Gr k) := by decide +kernel
def R_Or : String := "ExactShares2$Orders"
def F_Or : u_T := fun k => match k with
  | 0 => ("ExactShares2$Orders", "groups", "LExactShares2$Groups;", true)
  | 1 => ("ExactShares2$Orders", "order", "[I", true)
  | 2 => ("ExactShares2$Orders", "count", "I", false)
  | _ => ("ExactShares2$Orders", "z", "I", false)
def t_Or : Nat → FieldType := fun k => match k with
  | 0 => .object "ExactShares2$Groups"
  | 1 => .array .int
  | 2 => .int
  | _ => .int
theorem n_Or : ∀ a, a < 4 → ∀ b, b < 4 → a ≠ b → (F_Or a).2.1 ≠ (F_Or b).2.1 := by decide +kernel
theorem t_Or_ok : ∀ k, k < 4 → parseFieldDescriptor (F_Or k).2.2.1 = some (t_Or k) := by decide +kernel
def R_Me : String := "ExactShares2$Means"
def F_Me : u_T := fun k => match k with
  | 0 => ("ExactShares2$Means", "learner", "LExactShares2$Learner;", true)
  | 1 => ("ExactShares2$Means", "rows", "LExactShares2$Rows;", true)
  | 2 => ("ExactShares2$Means", "groups", "LExactShares2$Groups;", true)
  | 3 => ("ExactShares2$Means", "orders", "LExactShares2$Orders;", true)
  | 4 => ("ExactShares2$Means", "mixed", "[I", true)
  | _ => ("ExactShares2$Means", "sizes", "[J", true)
def t_Me : Nat → FieldType := fun k => match k with
  | 0 => .object "ExactShares2$Learner"
  | 1 => .object "ExactShares2$Rows"
  | 2 => .object "ExactShares2$Groups"
  | 3 => .object "ExactShares2$Orders"
  | 4 => .array .int
  | _ => .array .long
theorem n_Me : ∀ a, a < 6 → ∀ b, b < 6 → a ≠ b → (F_Me a).2.1 ≠ (F_Me b).2.1 := by decide +kernel
theorem t_Me_ok : ∀ k, k < 6 → parseFieldDescriptor (F_Me k).2.2.1 = some (t_Me k) := by decide +kernel
def R_Se : String := "ExactShares2$Search"
def F_Se : u_T := fun k => match k with
  | 0 => ("ExactShares2$Search", "columns", "I", true)
  | 1 => ("ExactShares2$Search", "learner", "LExactShares2$Learner;", true)
  | 2 => ("ExactShares2$Search", "rows", "LExactShares2$Rows;", true)
  | 3 => ("ExactShares2$Search", "barred", "[Z", true)
  | 4 => ("ExactShares2$Search", "choices", "[[I", true)
  | 5 => ("ExactShares2$Search", "choiceCounts", "[I", true)
  | 6 => ("ExactShares2$Search", "least", "[I", true)
  | 7 => ("ExactShares2$Search", "most", "[I", true)
  | 8 => ("ExactShares2$Search", "best", "[I", true)
  | 9 => ("ExactShares2$Search", "bestCost", "I", false)
  | _ => ("ExactShares2$Search", "wanted", "I", false)
def t_Se : Nat → FieldType := fun k => match k with
  | 0 => .int
  | 1 => .object "ExactShares2$Learner"
  | 2 => .object "ExactShares2$Rows"
  | 3 => .array .boolean
  | 4 => .array (.array .int)
  | 5 => .array .int
  | 6 => .array .int
  | 7 => .array .int
  | 8 => .array .int
  | 9 => .int
  | _ => .int
theorem n_Se : ∀ a, a < 11 → ∀ b, b < 11 → a ≠ b → (F_Se a).2.1 ≠ (F_Se b).2.1 := by decide +kernel
theorem t_Se_ok : ∀ k, k < 11 → parseFieldDescriptor (F_Se k).2.2.1 = some (t_Se k) := by decide +kernel
def R_ES : String := "ExactShares2"
def F_ES : u_T := fun k => match k with
  | 0 => ("ExactShares2", "columns", "I", true)
  | 1 => ("ExactShares2", "learner", "LExactShares2$Learner;", true)
  | 2 => ("ExactShares2", "rows", "LExactShares2$Rows;", true)
  | 3 => ("ExactShares2", "groups", "LExactShares2$Groups;", true)
  | 4 => ("ExactShares2", "means", "LExactShares2$Means;", true)
  | _ => ("ExactShares2", "search", "LExactShares2$Search;", true)
def t_ES : Nat → FieldType := fun k => match k with
  | 0 => .int
  | 1 => .object "ExactShares2$Learner"
  | 2 => .object "ExactShares2$Rows"
  | 3 => .object "ExactShares2$Groups"
  | 4 => .object "ExactShares2$Means"
  | _ => .object "ExactShares2$Search"
theorem n_ES : ∀ a, a < 6 → ∀ b, b < 6 → a ≠ b → (F_ES a).2.1 ≠ (F_ES b).2.1 := by decide +kernel
theorem t_ES_ok : ∀ k, k < 6 → parseFieldDescriptor (F_ES k).2.2.1 = some (t_ES k) := by decide +kernel
def R_Md : String := "ExactShares2Model"
def F_Md : u_T := fun k => match k with
  | 0 => ("ExactShares2Model", "code", "I", false)
  | 1 => ("ExactShares2Model", "columns", "I", true)
  | 2 => ("ExactShares2Model", "nodes", "I", false)
  | 3 => ("ExactShares2Model", "isLeaf", "[Z", true)
  | 4 => ("ExactShares2Model", "number", "[I", true)
  | 5 => ("ExactShares2Model", "splitOf", "[I", true)
  | 6 => ("ExactShares2Model", "low", "[I", true)
  | 7 => ("ExactShares2Model", "high", "[I", true)
  | 8 => ("ExactShares2Model", "roots", "I", false)
  | 9 => ("ExactShares2Model", "root", "[I", true)
  | 10 => ("ExactShares2Model", "weights", "[I", true)
  | 11 => ("ExactShares2Model", "groups", "[I", true)
  | 12 => ("ExactShares2Model", "barred", "[Z", true)
  | 13 => ("ExactShares2Model", "rows", "I", false)
  | 14 => ("ExactShares2Model", "items", "[I", true)
  | 15 => ("ExactShares2Model", "now", "[I", true)
  | 16 => ("ExactShares2Model", "sums", "[J", true)
  | 17 => ("ExactShares2Model", "many", "I", false)
  | 18 => ("ExactShares2Model", "parts", "[I", true)
  | 19 => ("ExactShares2Model", "order", "[I", true)
  | 20 => ("ExactShares2Model", "sizes", "[J", true)
  | 21 => ("ExactShares2Model", "from", "[I", true)
  | 22 => ("ExactShares2Model", "best", "[I", true)
  | 23 => ("ExactShares2Model", "bestMany", "I", false)
  | _ => ("ExactShares2Model", "bestSum", "I", false)
def t_Md : Nat → FieldType := fun k => match k with
  | 0 => .int
  | 1 => .int
  | 2 => .int
  | 3 => .array .boolean
  | 4 => .array .int
  | 5 => .array .int
  | 6 => .array .int
  | 7 => .array .int
  | 8 => .int
  | 9 => .array .int
  | 10 => .array .int
  | 11 => .array .int
  | 12 => .array .boolean
  | 13 => .int
  | 14 => .array .int
  | 15 => .array .int
  | 16 => .array .long
  | 17 => .int
  | 18 => .array .int
  | 19 => .array .int
  | 20 => .array .long
  | 21 => .array .int
  | 22 => .array .int
  | 23 => .int
  | _ => .int
theorem n_Md : ∀ a, a < 25 → ∀ b, b < 25 → a ≠ b → (F_Md a).2.1 ≠ (F_Md b).2.1 := by decide +kernel
theorem t_Md_ok : ∀ k, k < 25 → parseFieldDescriptor (F_Md k).2.2.1 = some (t_Md k) := by decide +kernel
def R_In : String := "java/lang/Integer"
def R_La : String := "ExactShares2Law"
abbrev zcl : List vw_C := [(R_Ln, F_Ln, 9), (R_Rw, F_Rw, 3), (R_Gr, F_Gr, 2), (R_Or, F_Or, 4), (R_Me, F_Me, 6), (R_Se, F_Se, 11), (R_ES, F_ES, 6), (R_Md, F_Md, 25)]
abbrev b_ES_init : ByteArray := prog_1_method_1_code
def y_ES_init : MethodName := ⟨R_ES, "<init>", "(I)V"⟩
abbrev b_Ln_init : ByteArray := prog_3_method_1_code
def y_Ln_init : MethodName := ⟨R_Ln, "<init>", "()V"⟩
abbrev b_Rw_init : ByteArray := prog_6_method_1_code
def y_Rw_init : MethodName := ⟨R_Rw, "<init>", "()V"⟩
abbrev b_Gr_init : ByteArray := prog_2_method_1_code
def y_Gr_init : MethodName := ⟨R_Gr, "<init>", "(I)V"⟩
abbrev b_Gr_standAlone : ByteArray := prog_2_method_2_code
def y_Gr_standAlone : MethodName := ⟨R_Gr, "standAlone", "()V"⟩
abbrev b_Me_init : ByteArray := prog_4_method_1_code
def y_Me_init : MethodName := ⟨R_Me, "<init>", "(LExactShares2$Learner;LExactShares2$Rows;LExactShares2$Groups;)V"⟩
abbrev b_Or_init : ByteArray := prog_5_method_1_code
def y_Or_init : MethodName := ⟨R_Or, "<init>", "(LExactShares2$Groups;)V"⟩
abbrev b_Se_init : ByteArray := prog_7_method_1_code
def y_Se_init : MethodName := ⟨R_Se, "<init>", "(ILExactShares2$Learner;LExactShares2$Rows;)V"⟩
abbrev b_ES_leaf : ByteArray := prog_1_method_2_code
def y_ES_leaf : MethodName := ⟨R_ES, "leaf", "(I)I"⟩
abbrev b_ES_isWithin : ByteArray := prog_1_method_24_code
def y_ES_isWithin : MethodName := ⟨R_ES, "isWithin", "(II)Z"⟩
abbrev b_Ln_addLeaf : ByteArray := prog_3_method_3_code
def y_Ln_addLeaf : MethodName := ⟨R_Ln, "addLeaf", "(I)I"⟩
abbrev b_Ln_addNode : ByteArray := prog_3_method_5_code
def y_Ln_addNode : MethodName := ⟨R_Ln, "addNode", "(IIII)I"⟩
abbrev b_ES_split : ByteArray := prog_1_method_3_code
def y_ES_split : MethodName := ⟨R_ES, "split", "(IIII)I"⟩
abbrev b_ES_isColumn : ByteArray := prog_1_method_21_code
def y_ES_isColumn : MethodName := ⟨R_ES, "isColumn", "(I)Z"⟩
abbrev b_Ln_hasNode : ByteArray := prog_3_method_2_code
def y_Ln_hasNode : MethodName := ⟨R_Ln, "hasNode", "(I)Z"⟩
abbrev b_Ln_addSplit : ByteArray := prog_3_method_4_code
def y_Ln_addSplit : MethodName := ⟨R_Ln, "addSplit", "(IIII)I"⟩
abbrev b_ES_root : ByteArray := prog_1_method_4_code
def y_ES_root : MethodName := ⟨R_ES, "root", "(I)I"⟩
abbrev b_Ln_addRoot : ByteArray := prog_3_method_6_code
def y_Ln_addRoot : MethodName := ⟨R_Ln, "addRoot", "(I)I"⟩
abbrev b_ES_weight : ByteArray := prog_1_method_5_code
def y_ES_weight : MethodName := ⟨R_ES, "weight", "(II)I"⟩
abbrev b_Ln_weigh : ByteArray := prog_3_method_7_code
def y_Ln_weigh : MethodName := ⟨R_Ln, "weigh", "(II)V"⟩
abbrev b_ES_clear : ByteArray := prog_1_method_6_code
def y_ES_clear : MethodName := ⟨R_ES, "clear", "()I"⟩
abbrev b_Ln_forget : ByteArray := prog_3_method_8_code
def y_Ln_forget : MethodName := ⟨R_Ln, "forget", "()I"⟩
abbrev b_Rw_forget : ByteArray := prog_6_method_6_code
def y_Rw_forget : MethodName := ⟨R_Rw, "forget", "()V"⟩
abbrev b_Rw_empty : ByteArray := prog_6_method_7_code
def y_Rw_empty : MethodName := ⟨R_Rw, "empty", "([I)V"⟩
abbrev b_Se_unbarAll : ByteArray := prog_7_method_3_code
def y_Se_unbarAll : MethodName := ⟨R_Se, "unbarAll", "()V"⟩
abbrev b_ES_background : ByteArray := prog_1_method_7_code
def y_ES_background : MethodName := ⟨R_ES, "background", "()I"⟩
abbrev b_Rw_addRow : ByteArray := prog_6_method_5_code
def y_Rw_addRow : MethodName := ⟨R_Rw, "addRow", "()I"⟩
abbrev b_ES_item : ByteArray := prog_1_method_8_code
def y_ES_item : MethodName := ⟨R_ES, "item", "(III)I"⟩
abbrev b_Rw_has : ByteArray := prog_6_method_3_code
def y_Rw_has : MethodName := ⟨R_Rw, "has", "(I)Z"⟩
abbrev b_Rw_at : ByteArray := prog_6_method_4_code
def y_Rw_at : MethodName := ⟨R_Rw, "at", "(I)[I"⟩
abbrev b_ES_group : ByteArray := prog_1_method_9_code
def y_ES_group : MethodName := ⟨R_ES, "group", "(II)I"⟩
abbrev b_Gr_move : ByteArray := prog_2_method_4_code
def y_Gr_move : MethodName := ⟨R_Gr, "move", "(II)I"⟩
abbrev b_ES_answer : ByteArray := prog_1_method_10_code
def y_ES_answer : MethodName := ⟨R_ES, "answer", "(I)J"⟩
abbrev b_Ln_sumFor : ByteArray := prog_3_method_9_code
def y_Ln_sumFor : MethodName := ⟨R_Ln, "sumFor", "([I)I"⟩
abbrev b_Ln_givenBy : ByteArray := prog_3_method_10_code
def y_Ln_givenBy : MethodName := ⟨R_Ln, "givenBy", "(I[I)I"⟩
abbrev b_ES_rank : ByteArray := prog_1_method_17_code
def y_ES_rank : MethodName := ⟨R_ES, "rank", "(I)I"⟩
abbrev b_Gr_count : ByteArray := prog_2_method_6_code
def y_Gr_count : MethodName := ⟨R_Gr, "count", "()I"⟩
abbrev b_Gr_there : ByteArray := prog_2_method_5_code
def y_Gr_there : MethodName := ⟨R_Gr, "there", "()I"⟩
abbrev b_In_bitCount : ByteArray := prog_12_method_49_code
def y_In_bitCount : MethodName := ⟨R_In, "bitCount", "(I)I"⟩
abbrev b_Rw_count : ByteArray := prog_6_method_2_code
def y_Rw_count : MethodName := ⟨R_Rw, "count", "()I"⟩
abbrev b_Me_measureShares : ByteArray := prog_4_method_14_code
def y_Me_measureShares : MethodName := ⟨R_Me, "measureShares", "()V"⟩
abbrev b_Me_shareSum : ByteArray := prog_4_method_5_code
def y_Me_shareSum : MethodName := ⟨R_Me, "shareSum", "(II)J"⟩
abbrev b_Gr_columnsOf : ByteArray := prog_2_method_7_code
def y_Gr_columnsOf : MethodName := ⟨R_Gr, "columnsOf", "(I)I"⟩
abbrev b_Me_ordersAround : ByteArray := prog_4_method_7_code
def y_Me_ordersAround : MethodName := ⟨R_Me, "ordersAround", "(II)J"⟩
abbrev b_ES_factorial : ByteArray := prog_1_method_27_code
def y_ES_factorial : MethodName := ⟨R_ES, "factorial", "(I)J"⟩
abbrev b_Me_brought : ByteArray := prog_4_method_4_code
def y_Me_brought : MethodName := ⟨R_Me, "brought", "(II)J"⟩
abbrev b_Me_total : ByteArray := prog_4_method_2_code
def y_Me_total : MethodName := ⟨R_Me, "total", "(I)J"⟩
abbrev b_Me_mix : ByteArray := prog_4_method_3_code
def y_Me_mix : MethodName := ⟨R_Me, "mix", "(I[I[I)V"⟩
abbrev b_Me_groupAtPlace : ByteArray := prog_4_method_15_code
def y_Me_groupAtPlace : MethodName := ⟨R_Me, "groupAtPlace", "(I)I"⟩
abbrev b_Me_countAhead : ByteArray := prog_4_method_16_code
def y_Me_countAhead : MethodName := ⟨R_Me, "countAhead", "(II)I"⟩
abbrev b_ES_bar : ByteArray := prog_1_method_18_code
def y_ES_bar : MethodName := ⟨R_ES, "bar", "(IZ)I"⟩
abbrev b_Se_setBarred : ByteArray := prog_7_method_2_code
def y_Se_setBarred : MethodName := ⟨R_Se, "setBarred", "(IZ)Z"⟩
abbrev b_ES_nearest : ByteArray := prog_1_method_19_code
def y_ES_nearest : MethodName := ⟨R_ES, "nearest", "(I)I"⟩
abbrev b_Se_find : ByteArray := prog_7_method_4_code
def y_Se_find : MethodName := ⟨R_Se, "find", "(I)Z"⟩
abbrev b_Se_gatherChoices : ByteArray := prog_7_method_7_code
def y_Se_gatherChoices : MethodName := ⟨R_Se, "gatherChoices", "(I)V"⟩
abbrev b_Se_addChoice : ByteArray := prog_7_method_8_code
def y_Se_addChoice : MethodName := ⟨R_Se, "addChoice", "(II)V"⟩
abbrev b_Se_open : ByteArray := prog_7_method_9_code
def y_Se_open : MethodName := ⟨R_Se, "open", "(I)V"⟩
abbrev b_Se_visit : ByteArray := prog_7_method_10_code
def y_Se_visit : MethodName := ⟨R_Se, "visit", "(II)V"⟩
abbrev b_Ln_boundWithin : ByteArray := prog_3_method_11_code
def y_Ln_boundWithin : MethodName := ⟨R_Ln, "boundWithin", "([I[I)I"⟩
abbrev b_Ln_peakOf : ByteArray := prog_3_method_12_code
def y_Ln_peakOf : MethodName := ⟨R_Ln, "peakOf", "(I[I[I)I"⟩
abbrev b_Se_settle : ByteArray := prog_7_method_11_code
def y_Se_settle : MethodName := ⟨R_Se, "settle", "(II)V"⟩
abbrev b_Se_costOf : ByteArray := prog_7_method_12_code
def y_Se_costOf : MethodName := ⟨R_Se, "costOf", "(II)I"⟩
abbrev b_Se_keep : ByteArray := prog_7_method_13_code
def y_Se_keep : MethodName := ⟨R_Se, "keep", "(I)V"⟩
abbrev b_Se_differing : ByteArray := prog_7_method_5_code
def y_Se_differing : MethodName := ⟨R_Se, "differing", "()I"⟩
abbrev b_ES_nearestAt : ByteArray := prog_1_method_20_code
def y_ES_nearestAt : MethodName := ⟨R_ES, "nearestAt", "(II)J"⟩
abbrev b_Se_foundIn : ByteArray := prog_7_method_6_code
def y_Se_foundIn : MethodName := ⟨R_Se, "foundIn", "(I)I"⟩
abbrev b_La_cell : ByteArray := method_2_code
def y_La_cell : MethodName := ⟨R_La, "cell", "([II)I"⟩
abbrev b_La_value : ByteArray := method_3_code
def y_La_value : MethodName := ⟨R_La, "value", "(LExactShares2;II[J)I"⟩
abbrev b_ES_value : ByteArray := prog_1_method_11_code
def y_ES_value : MethodName := ⟨R_ES, "value", "(II)J"⟩
abbrev b_ES_isPart : ByteArray := prog_1_method_22_code
def y_ES_isPart : MethodName := ⟨R_ES, "isPart", "(I)Z"⟩
abbrev b_ES_told : ByteArray := prog_1_method_25_code
def y_ES_told : MethodName := ⟨R_ES, "told", "(JJI)J"⟩
abbrev b_ES_commonDivisor : ByteArray := prog_1_method_26_code
def y_ES_commonDivisor : MethodName := ⟨R_ES, "commonDivisor", "(JJ)J"⟩
abbrev b_La_share : ByteArray := method_4_code
def y_La_share : MethodName := ⟨R_La, "share", "(LExactShares2;III[J)I"⟩
abbrev b_ES_share : ByteArray := prog_1_method_12_code
def y_ES_share : MethodName := ⟨R_ES, "share", "(III)J"⟩
abbrev b_ES_isManner : ByteArray := prog_1_method_23_code
def y_ES_isManner : MethodName := ⟨R_ES, "isManner", "(I)Z"⟩
abbrev b_Gr_ofColumn : ByteArray := prog_2_method_3_code
def y_Gr_ofColumn : MethodName := ⟨R_Gr, "ofColumn", "(I)I"⟩
abbrev b_Me_shareWays : ByteArray := prog_4_method_6_code
def y_Me_shareWays : MethodName := ⟨R_Me, "shareWays", "(I)J"⟩
abbrev b_La_both : ByteArray := method_5_code
def y_La_both : MethodName := ⟨R_La, "both", "(LExactShares2;III[J)I"⟩
abbrev b_ES_both : ByteArray := prog_1_method_13_code
def y_ES_both : MethodName := ⟨R_ES, "both", "(III)J"⟩
abbrev b_Me_togetherSum : ByteArray := prog_4_method_8_code
def y_Me_togetherSum : MethodName := ⟨R_Me, "togetherSum", "(II)J"⟩
abbrev b_Me_togetherWays : ByteArray := prog_4_method_9_code
def y_Me_togetherWays : MethodName := ⟨R_Me, "togetherWays", "()J"⟩
abbrev b_La_drawn : ByteArray := method_6_code
def y_La_drawn : MethodName := ⟨R_La, "drawn", "(LExactShares2;IIII[J)I"⟩
abbrev b_ES_drawn : ByteArray := prog_1_method_14_code
def y_ES_drawn : MethodName := ⟨R_ES, "drawn", "(IIII)J"⟩
abbrev b_Me_drawnSum : ByteArray := prog_4_method_10_code
def y_Me_drawnSum : MethodName := ⟨R_Me, "drawnSum", "(III)J"⟩
abbrev b_Or_start : ByteArray := prog_5_method_2_code
def y_Or_start : MethodName := ⟨R_Or, "start", "(I)V"⟩
abbrev b_Or_drawNext : ByteArray := prog_5_method_3_code
def y_Or_drawNext : MethodName := ⟨R_Or, "drawNext", "()V"⟩
abbrev b_Or_lineUp : ByteArray := prog_5_method_4_code
def y_Or_lineUp : MethodName := ⟨R_Or, "lineUp", "()V"⟩
abbrev b_Or_below : ByteArray := prog_5_method_5_code
def y_Or_below : MethodName := ⟨R_Or, "below", "(I)I"⟩
abbrev b_Or_groupsBefore : ByteArray := prog_5_method_6_code
def y_Or_groupsBefore : MethodName := ⟨R_Or, "groupsBefore", "(I)I"⟩
abbrev b_La_partial : ByteArray := method_7_code
def y_La_partial : MethodName := ⟨R_La, "partial", "(LExactShares2;III[J)I"⟩
abbrev b_ES_partial : ByteArray := prog_1_method_15_code
def y_ES_partial : MethodName := ⟨R_ES, "partial", "(III)J"⟩
abbrev b_Me_replacedSum : ByteArray := prog_4_method_11_code
def y_Me_replacedSum : MethodName := ⟨R_Me, "replacedSum", "(II)J"⟩
abbrev b_Me_sumWith : ByteArray := prog_4_method_12_code
def y_Me_sumWith : MethodName := ⟨R_Me, "sumWith", "([III)J"⟩
abbrev b_La_worth : ByteArray := method_8_code
def y_La_worth : MethodName := ⟨R_La, "worth", "(LExactShares2;II[J)I"⟩
abbrev b_ES_worth : ByteArray := prog_1_method_16_code
def y_ES_worth : MethodName := ⟨R_ES, "worth", "(II)J"⟩
abbrev b_Me_changeSum : ByteArray := prog_4_method_13_code
def y_Me_changeSum : MethodName := ⟨R_Me, "changeSum", "(I)J"⟩
abbrev b_Md_init : ByteArray := prog_9_method_1_code
def y_Md_init : MethodName := ⟨R_Md, "<init>", "(I)V"⟩
abbrev b_Md_clear : ByteArray := prog_9_method_9_code
def y_Md_clear : MethodName := ⟨R_Md, "clear", "()I"⟩
abbrev b_Md_thrown : ByteArray := prog_9_method_2_code
def y_Md_thrown : MethodName := ⟨R_Md, "thrown", "()I"⟩
abbrev b_Md_leaf : ByteArray := prog_9_method_5_code
def y_Md_leaf : MethodName := ⟨R_Md, "leaf", "(I)I"⟩
abbrev b_Md_in : ByteArray := prog_9_method_3_code
def y_Md_in : MethodName := ⟨R_Md, "in", "(III)Z"⟩
abbrev b_Md_split : ByteArray := prog_9_method_6_code
def y_Md_split : MethodName := ⟨R_Md, "split", "(IIII)I"⟩
abbrev b_Md_isColumn : ByteArray := prog_9_method_4_code
def y_Md_isColumn : MethodName := ⟨R_Md, "isColumn", "(I)Z"⟩
abbrev b_Md_root : ByteArray := prog_9_method_7_code
def y_Md_root : MethodName := ⟨R_Md, "root", "(I)I"⟩
abbrev b_Md_weight : ByteArray := prog_9_method_8_code
def y_Md_weight : MethodName := ⟨R_Md, "weight", "(II)I"⟩
abbrev b_Md_background : ByteArray := prog_9_method_10_code
def y_Md_background : MethodName := ⟨R_Md, "background", "()I"⟩
abbrev b_Md_item : ByteArray := prog_9_method_11_code
def y_Md_item : MethodName := ⟨R_Md, "item", "(III)I"⟩
abbrev b_Md_group : ByteArray := prog_9_method_12_code
def y_Md_group : MethodName := ⟨R_Md, "group", "(II)I"⟩
abbrev b_Md_answer : ByteArray := prog_9_method_15_code
def y_Md_answer : MethodName := ⟨R_Md, "answer", "(I)J"⟩
abbrev b_Md_take : ByteArray := prog_9_method_13_code
def y_Md_take : MethodName := ⟨R_Md, "take", "(I)V"⟩
abbrev b_Md_answerNow : ByteArray := prog_9_method_14_code
def y_Md_answerNow : MethodName := ⟨R_Md, "answerNow", "()J"⟩
abbrev b_Md_value : ByteArray := prog_9_method_19_code
def y_Md_value : MethodName := ⟨R_Md, "value", "(II)J"⟩
abbrev b_Md_throwsNow : ByteArray := prog_9_method_18_code
def y_Md_throwsNow : MethodName := ⟨R_Md, "throwsNow", "()Z"⟩
abbrev b_Md_sumAll : ByteArray := prog_9_method_16_code
def y_Md_sumAll : MethodName := ⟨R_Md, "sumAll", "()V"⟩
abbrev b_Md_part : ByteArray := prog_9_method_17_code
def y_Md_part : MethodName := ⟨R_Md, "part", "(JJI)J"⟩
abbrev b_Md_share : ByteArray := prog_9_method_27_code
def y_Md_share : MethodName := ⟨R_Md, "share", "(III)J"⟩
abbrev b_Md_groupBits : ByteArray := prog_9_method_20_code
def y_Md_groupBits : MethodName := ⟨R_Md, "groupBits", "(I)I"⟩
abbrev b_Md_shareSum : ByteArray := prog_9_method_25_code
def y_Md_shareSum : MethodName := ⟨R_Md, "shareSum", "(I)J"⟩
abbrev b_Md_listParts : ByteArray := prog_9_method_21_code
def y_Md_listParts : MethodName := ⟨R_Md, "listParts", "(II)V"⟩
abbrev b_Md_orders : ByteArray := prog_9_method_22_code
def y_Md_orders : MethodName := ⟨R_Md, "orders", "()I"⟩
abbrev b_Md_layOrder : ByteArray := prog_9_method_23_code
def y_Md_layOrder : MethodName := ⟨R_Md, "layOrder", "(I)V"⟩
abbrev b_Md_before : ByteArray := prog_9_method_24_code
def y_Md_before : MethodName := ⟨R_Md, "before", "(I)I"⟩
abbrev b_Md_setSum : ByteArray := prog_9_method_26_code
def y_Md_setSum : MethodName := ⟨R_Md, "setSum", "(I)J"⟩
abbrev b_Md_both : ByteArray := prog_9_method_28_code
def y_Md_both : MethodName := ⟨R_Md, "both", "(III)J"⟩
abbrev b_Md_drawn : ByteArray := prog_9_method_29_code
def y_Md_drawn : MethodName := ⟨R_Md, "drawn", "(IIII)J"⟩
abbrev b_Md_partial : ByteArray := prog_9_method_30_code
def y_Md_partial : MethodName := ⟨R_Md, "partial", "(III)J"⟩
abbrev b_Md_worth : ByteArray := prog_9_method_31_code
def y_Md_worth : MethodName := ⟨R_Md, "worth", "(II)J"⟩
abbrev b_Md_rank : ByteArray := prog_9_method_33_code
def y_Md_rank : MethodName := ⟨R_Md, "rank", "(I)I"⟩
abbrev b_Md_findSizes : ByteArray := prog_9_method_32_code
def y_Md_findSizes : MethodName := ⟨R_Md, "findSizes", "()V"⟩
abbrev b_Md_bar : ByteArray := prog_9_method_34_code
def y_Md_bar : MethodName := ⟨R_Md, "bar", "(IZ)I"⟩
abbrev b_Md_nearest : ByteArray := prog_9_method_38_code
def y_Md_nearest : MethodName := ⟨R_Md, "nearest", "(I)I"⟩
abbrev b_Md_findNearest : ByteArray := prog_9_method_37_code
def y_Md_findNearest : MethodName := ⟨R_Md, "findNearest", "(I)Z"⟩
abbrev b_Md_hold : ByteArray := prog_9_method_35_code
def y_Md_hold : MethodName := ⟨R_Md, "hold", "(Z)V"⟩
abbrev b_Md_next : ByteArray := prog_9_method_36_code
def y_Md_next : MethodName := ⟨R_Md, "next", "(I)I"⟩
abbrev b_Md_nearestAt : ByteArray := prog_9_method_39_code
def y_Md_nearestAt : MethodName := ⟨R_Md, "nearestAt", "(II)J"⟩
/-- the words that stay as they are -/
def zws : List Cond := lw_tbl.filter goodWord
theorem zws_in {w : Cond} (h : w ∈ zws) : w ∈ lw_tbl := (List.mem_filter.mp h).1
theorem zmem {c : Cond} (i : Nat) (h : tables_1[i]? = some c) (g : goodWord c = true) : c ∈ zws := List.mem_filter.mpr ⟨List.mem_append_right _ (List.mem_of_getElem? h), g⟩
theorem zsel {c : Cond} (i : Nat) (h : (k2_sels lw_privs)[i]? = some c) (g : goodWord c = true) : c ∈ zws := List.mem_filter.mpr ⟨List.mem_append_left _ (List.mem_of_getElem? h), g⟩
theorem zgood {w : Cond} (h : w ∈ zws) : (w.onTables && w.keeps) = true ∨ ∃ ty, w = .arrayClass ty := good_of_word (List.mem_filter.mp h).2
theorem zgo {w : Cond} (h : w ∈ zws) : GoodIn zws (w :: zws) := fun v hv => by
  rcases List.mem_cons.mp hv with rfl | hv
  · exact ⟨h, zgood h⟩
  · exact ⟨hv, zgood hv⟩
end
section
theorem wc_ES_init : Cond.code y_ES_init b_ES_init 2 none ∈ zws := zmem 19 (by decide +kernel) (by decide +kernel)
theorem wi_ES_init : Cond.instanceMethod y_ES_init ∈ zws := zmem 18 (by decide +kernel) (by decide +kernel)
theorem wc_Ln_init : Cond.code y_Ln_init b_Ln_init 1 none ∈ zws := zmem 33 (by decide +kernel) (by decide +kernel)
theorem wi_Ln_init : Cond.instanceMethod y_Ln_init ∈ zws := zmem 32 (by decide +kernel) (by decide +kernel)
theorem wc_Rw_init : Cond.code y_Rw_init b_Rw_init 1 none ∈ zws := zmem 68 (by decide +kernel) (by decide +kernel)
theorem wi_Rw_init : Cond.instanceMethod y_Rw_init ∈ zws := zmem 67 (by decide +kernel) (by decide +kernel)
theorem wc_Gr_init : Cond.code y_Gr_init b_Gr_init 2 none ∈ zws := zmem 86 (by decide +kernel) (by decide +kernel)
theorem wi_Gr_init : Cond.instanceMethod y_Gr_init ∈ zws := zmem 85 (by decide +kernel) (by decide +kernel)
theorem wc_Gr_standAlone : Cond.code y_Gr_standAlone b_Gr_standAlone 2 none ∈ zws := zmem 91 (by decide +kernel) (by decide +kernel)
theorem wi_Gr_standAlone : Cond.instanceMethod y_Gr_standAlone ∈ zws := zmem 89 (by decide +kernel) (by decide +kernel)
theorem wc_Me_init : Cond.code y_Me_init b_Me_init 4 none ∈ zws := zmem 103 (by decide +kernel) (by decide +kernel)
theorem wi_Me_init : Cond.instanceMethod y_Me_init ∈ zws := zmem 102 (by decide +kernel) (by decide +kernel)
theorem wc_Or_init : Cond.code y_Or_init b_Or_init 2 none ∈ zws := zmem 109 (by decide +kernel) (by decide +kernel)
theorem wi_Or_init : Cond.instanceMethod y_Or_init ∈ zws := zmem 108 (by decide +kernel) (by decide +kernel)
theorem wc_Se_init : Cond.code y_Se_init b_Se_init 4 none ∈ zws := zmem 148 (by decide +kernel) (by decide +kernel)
theorem wi_Se_init : Cond.instanceMethod y_Se_init ∈ zws := zmem 147 (by decide +kernel) (by decide +kernel)
theorem wc_ES_leaf : Cond.code y_ES_leaf b_ES_leaf 2 (some .int) ∈ zws := zmem 209 (by decide +kernel) (by decide +kernel)
theorem wi_ES_leaf : Cond.instanceMethod y_ES_leaf ∈ zws := zmem 207 (by decide +kernel) (by decide +kernel)
theorem wc_ES_isWithin : Cond.code y_ES_isWithin b_ES_isWithin 2 (some .boolean) ∈ zws := zmem 212 (by decide +kernel) (by decide +kernel)
theorem wst_ES_isWithin : Cond.static y_ES_isWithin ∈ zws := zmem 211 (by decide +kernel) (by decide +kernel)
theorem wc_Ln_addLeaf : Cond.code y_Ln_addLeaf b_Ln_addLeaf 2 (some .int) ∈ zws := zmem 216 (by decide +kernel) (by decide +kernel)
theorem wi_Ln_addLeaf : Cond.instanceMethod y_Ln_addLeaf ∈ zws := zmem 214 (by decide +kernel) (by decide +kernel)
theorem wc_Ln_addNode : Cond.code y_Ln_addNode b_Ln_addNode 5 (some .int) ∈ zws := zmem 220 (by decide +kernel) (by decide +kernel)
theorem wi_Ln_addNode : Cond.instanceMethod y_Ln_addNode ∈ zws := zmem 219 (by decide +kernel) (by decide +kernel)
theorem wc_ES_split : Cond.code y_ES_split b_ES_split 5 (some .int) ∈ zws := zmem 224 (by decide +kernel) (by decide +kernel)
theorem wi_ES_split : Cond.instanceMethod y_ES_split ∈ zws := zmem 222 (by decide +kernel) (by decide +kernel)
theorem wc_ES_isColumn : Cond.code y_ES_isColumn b_ES_isColumn 2 (some .boolean) ∈ zws := zmem 228 (by decide +kernel) (by decide +kernel)
theorem wi_ES_isColumn : Cond.instanceMethod y_ES_isColumn ∈ zws := zmem 227 (by decide +kernel) (by decide +kernel)
theorem wc_Ln_hasNode : Cond.code y_Ln_hasNode b_Ln_hasNode 2 (some .boolean) ∈ zws := zmem 232 (by decide +kernel) (by decide +kernel)
theorem wi_Ln_hasNode : Cond.instanceMethod y_Ln_hasNode ∈ zws := zmem 230 (by decide +kernel) (by decide +kernel)
theorem wc_Ln_addSplit : Cond.code y_Ln_addSplit b_Ln_addSplit 5 (some .int) ∈ zws := zmem 236 (by decide +kernel) (by decide +kernel)
theorem wi_Ln_addSplit : Cond.instanceMethod y_Ln_addSplit ∈ zws := zmem 234 (by decide +kernel) (by decide +kernel)
theorem wc_ES_root : Cond.code y_ES_root b_ES_root 2 (some .int) ∈ zws := zmem 240 (by decide +kernel) (by decide +kernel)
theorem wi_ES_root : Cond.instanceMethod y_ES_root ∈ zws := zmem 238 (by decide +kernel) (by decide +kernel)
theorem wc_Ln_addRoot : Cond.code y_Ln_addRoot b_Ln_addRoot 2 (some .int) ∈ zws := zmem 244 (by decide +kernel) (by decide +kernel)
theorem wi_Ln_addRoot : Cond.instanceMethod y_Ln_addRoot ∈ zws := zmem 242 (by decide +kernel) (by decide +kernel)
theorem wc_ES_weight : Cond.code y_ES_weight b_ES_weight 3 (some .int) ∈ zws := zmem 248 (by decide +kernel) (by decide +kernel)
theorem wi_ES_weight : Cond.instanceMethod y_ES_weight ∈ zws := zmem 246 (by decide +kernel) (by decide +kernel)
theorem wc_Ln_weigh : Cond.code y_Ln_weigh b_Ln_weigh 3 none ∈ zws := zmem 252 (by decide +kernel) (by decide +kernel)
theorem wi_Ln_weigh : Cond.instanceMethod y_Ln_weigh ∈ zws := zmem 250 (by decide +kernel) (by decide +kernel)
theorem wc_ES_clear : Cond.code y_ES_clear b_ES_clear 2 (some .int) ∈ zws := zmem 256 (by decide +kernel) (by decide +kernel)
theorem wi_ES_clear : Cond.instanceMethod y_ES_clear ∈ zws := zmem 254 (by decide +kernel) (by decide +kernel)
theorem wc_Ln_forget : Cond.code y_Ln_forget b_Ln_forget 3 (some .int) ∈ zws := zmem 260 (by decide +kernel) (by decide +kernel)
theorem wi_Ln_forget : Cond.instanceMethod y_Ln_forget ∈ zws := zmem 258 (by decide +kernel) (by decide +kernel)
theorem wc_Rw_forget : Cond.code y_Rw_forget b_Rw_forget 1 none ∈ zws := zmem 264 (by decide +kernel) (by decide +kernel)
theorem wi_Rw_forget : Cond.instanceMethod y_Rw_forget ∈ zws := zmem 262 (by decide +kernel) (by decide +kernel)
theorem wc_Rw_empty : Cond.code y_Rw_empty b_Rw_empty 2 none ∈ zws := zmem 267 (by decide +kernel) (by decide +kernel)
theorem wst_Rw_empty : Cond.static y_Rw_empty ∈ zws := zmem 266 (by decide +kernel) (by decide +kernel)
theorem wc_Se_unbarAll : Cond.code y_Se_unbarAll b_Se_unbarAll 2 none ∈ zws := zmem 272 (by decide +kernel) (by decide +kernel)
theorem wi_Se_unbarAll : Cond.instanceMethod y_Se_unbarAll ∈ zws := zmem 270 (by decide +kernel) (by decide +kernel)
theorem wc_ES_background : Cond.code y_ES_background b_ES_background 1 (some .int) ∈ zws := zmem 276 (by decide +kernel) (by decide +kernel)
theorem wi_ES_background : Cond.instanceMethod y_ES_background ∈ zws := zmem 274 (by decide +kernel) (by decide +kernel)
theorem wc_Rw_addRow : Cond.code y_Rw_addRow b_Rw_addRow 1 (some .int) ∈ zws := zmem 280 (by decide +kernel) (by decide +kernel)
theorem wi_Rw_addRow : Cond.instanceMethod y_Rw_addRow ∈ zws := zmem 278 (by decide +kernel) (by decide +kernel)
theorem wc_ES_item : Cond.code y_ES_item b_ES_item 4 (some .int) ∈ zws := zmem 284 (by decide +kernel) (by decide +kernel)
theorem wi_ES_item : Cond.instanceMethod y_ES_item ∈ zws := zmem 282 (by decide +kernel) (by decide +kernel)
theorem wc_Rw_has : Cond.code y_Rw_has b_Rw_has 2 (some .boolean) ∈ zws := zmem 288 (by decide +kernel) (by decide +kernel)
theorem wi_Rw_has : Cond.instanceMethod y_Rw_has ∈ zws := zmem 286 (by decide +kernel) (by decide +kernel)
theorem wc_Rw_at : Cond.code y_Rw_at b_Rw_at 2 (some (.array .int)) ∈ zws := zmem 292 (by decide +kernel) (by decide +kernel)
theorem wi_Rw_at : Cond.instanceMethod y_Rw_at ∈ zws := zmem 290 (by decide +kernel) (by decide +kernel)
theorem wc_ES_group : Cond.code y_ES_group b_ES_group 3 (some .int) ∈ zws := zmem 296 (by decide +kernel) (by decide +kernel)
theorem wi_ES_group : Cond.instanceMethod y_ES_group ∈ zws := zmem 294 (by decide +kernel) (by decide +kernel)
theorem wc_Gr_move : Cond.code y_Gr_move b_Gr_move 4 (some .int) ∈ zws := zmem 300 (by decide +kernel) (by decide +kernel)
theorem wi_Gr_move : Cond.instanceMethod y_Gr_move ∈ zws := zmem 298 (by decide +kernel) (by decide +kernel)
theorem wc_ES_answer : Cond.code y_ES_answer b_ES_answer 2 (some .long) ∈ zws := zmem 304 (by decide +kernel) (by decide +kernel)
theorem wi_ES_answer : Cond.instanceMethod y_ES_answer ∈ zws := zmem 302 (by decide +kernel) (by decide +kernel)
theorem wc_Ln_sumFor : Cond.code y_Ln_sumFor b_Ln_sumFor 4 (some .int) ∈ zws := zmem 309 (by decide +kernel) (by decide +kernel)
theorem wi_Ln_sumFor : Cond.instanceMethod y_Ln_sumFor ∈ zws := zmem 307 (by decide +kernel) (by decide +kernel)
theorem wc_Ln_givenBy : Cond.code y_Ln_givenBy b_Ln_givenBy 6 (some .int) ∈ zws := zmem 313 (by decide +kernel) (by decide +kernel)
theorem wi_Ln_givenBy : Cond.instanceMethod y_Ln_givenBy ∈ zws := zmem 312 (by decide +kernel) (by decide +kernel)
theorem wc_ES_rank : Cond.code y_ES_rank b_ES_rank 2 (some .int) ∈ zws := zmem 317 (by decide +kernel) (by decide +kernel)
theorem wi_ES_rank : Cond.instanceMethod y_ES_rank ∈ zws := zmem 315 (by decide +kernel) (by decide +kernel)
theorem wc_Gr_count : Cond.code y_Gr_count b_Gr_count 1 (some .int) ∈ zws := zmem 321 (by decide +kernel) (by decide +kernel)
theorem wi_Gr_count : Cond.instanceMethod y_Gr_count ∈ zws := zmem 319 (by decide +kernel) (by decide +kernel)
theorem wc_Gr_there : Cond.code y_Gr_there b_Gr_there 3 (some .int) ∈ zws := zmem 325 (by decide +kernel) (by decide +kernel)
theorem wi_Gr_there : Cond.instanceMethod y_Gr_there ∈ zws := zmem 323 (by decide +kernel) (by decide +kernel)
theorem wc_In_bitCount : Cond.code y_In_bitCount b_In_bitCount 1 (some .int) ∈ zws := zmem 328 (by decide +kernel) (by decide +kernel)
theorem wst_In_bitCount : Cond.static y_In_bitCount ∈ zws := zmem 327 (by decide +kernel) (by decide +kernel)
theorem wc_Rw_count : Cond.code y_Rw_count b_Rw_count 1 (some .int) ∈ zws := zmem 335 (by decide +kernel) (by decide +kernel)
theorem wi_Rw_count : Cond.instanceMethod y_Rw_count ∈ zws := zmem 333 (by decide +kernel) (by decide +kernel)
theorem wc_Me_measureShares : Cond.code y_Me_measureShares b_Me_measureShares 4 none ∈ zws := zmem 339 (by decide +kernel) (by decide +kernel)
theorem wi_Me_measureShares : Cond.instanceMethod y_Me_measureShares ∈ zws := zmem 337 (by decide +kernel) (by decide +kernel)
theorem wc_Me_shareSum : Cond.code y_Me_shareSum b_Me_shareSum 11 (some .long) ∈ zws := zmem 344 (by decide +kernel) (by decide +kernel)
theorem wi_Me_shareSum : Cond.instanceMethod y_Me_shareSum ∈ zws := zmem 342 (by decide +kernel) (by decide +kernel)
theorem wc_Gr_columnsOf : Cond.code y_Gr_columnsOf b_Gr_columnsOf 4 (some .int) ∈ zws := zmem 348 (by decide +kernel) (by decide +kernel)
theorem wi_Gr_columnsOf : Cond.instanceMethod y_Gr_columnsOf ∈ zws := zmem 346 (by decide +kernel) (by decide +kernel)
theorem wc_Me_ordersAround : Cond.code y_Me_ordersAround b_Me_ordersAround 3 (some .long) ∈ zws := zmem 352 (by decide +kernel) (by decide +kernel)
theorem wst_Me_ordersAround : Cond.static y_Me_ordersAround ∈ zws := zmem 351 (by decide +kernel) (by decide +kernel)
theorem wc_ES_factorial : Cond.code y_ES_factorial b_ES_factorial 4 (some .long) ∈ zws := zmem 355 (by decide +kernel) (by decide +kernel)
theorem wst_ES_factorial : Cond.static y_ES_factorial ∈ zws := zmem 354 (by decide +kernel) (by decide +kernel)
theorem wc_Me_brought : Cond.code y_Me_brought b_Me_brought 3 (some .long) ∈ zws := zmem 359 (by decide +kernel) (by decide +kernel)
theorem wi_Me_brought : Cond.instanceMethod y_Me_brought ∈ zws := zmem 358 (by decide +kernel) (by decide +kernel)
theorem wc_Me_total : Cond.code y_Me_total b_Me_total 5 (some .long) ∈ zws := zmem 363 (by decide +kernel) (by decide +kernel)
theorem wi_Me_total : Cond.instanceMethod y_Me_total ∈ zws := zmem 361 (by decide +kernel) (by decide +kernel)
theorem wc_Me_mix : Cond.code y_Me_mix b_Me_mix 5 none ∈ zws := zmem 369 (by decide +kernel) (by decide +kernel)
theorem wi_Me_mix : Cond.instanceMethod y_Me_mix ∈ zws := zmem 368 (by decide +kernel) (by decide +kernel)
theorem wc_Me_groupAtPlace : Cond.code y_Me_groupAtPlace b_Me_groupAtPlace 4 (some .int) ∈ zws := zmem 377 (by decide +kernel) (by decide +kernel)
theorem wi_Me_groupAtPlace : Cond.instanceMethod y_Me_groupAtPlace ∈ zws := zmem 375 (by decide +kernel) (by decide +kernel)
theorem wc_Me_countAhead : Cond.code y_Me_countAhead b_Me_countAhead 7 (some .int) ∈ zws := zmem 381 (by decide +kernel) (by decide +kernel)
theorem wi_Me_countAhead : Cond.instanceMethod y_Me_countAhead ∈ zws := zmem 380 (by decide +kernel) (by decide +kernel)
theorem wc_ES_bar : Cond.code y_ES_bar b_ES_bar 3 (some .int) ∈ zws := zmem 385 (by decide +kernel) (by decide +kernel)
theorem wi_ES_bar : Cond.instanceMethod y_ES_bar ∈ zws := zmem 383 (by decide +kernel) (by decide +kernel)
theorem wc_Se_setBarred : Cond.code y_Se_setBarred b_Se_setBarred 4 (some .boolean) ∈ zws := zmem 389 (by decide +kernel) (by decide +kernel)
theorem wi_Se_setBarred : Cond.instanceMethod y_Se_setBarred ∈ zws := zmem 387 (by decide +kernel) (by decide +kernel)
theorem wc_ES_nearest : Cond.code y_ES_nearest b_ES_nearest 2 (some .int) ∈ zws := zmem 393 (by decide +kernel) (by decide +kernel)
theorem wi_ES_nearest : Cond.instanceMethod y_ES_nearest ∈ zws := zmem 391 (by decide +kernel) (by decide +kernel)
theorem wc_Se_find : Cond.code y_Se_find b_Se_find 3 (some .boolean) ∈ zws := zmem 397 (by decide +kernel) (by decide +kernel)
theorem wi_Se_find : Cond.instanceMethod y_Se_find ∈ zws := zmem 395 (by decide +kernel) (by decide +kernel)
theorem wc_Se_gatherChoices : Cond.code y_Se_gatherChoices b_Se_gatherChoices 3 none ∈ zws := zmem 401 (by decide +kernel) (by decide +kernel)
theorem wi_Se_gatherChoices : Cond.instanceMethod y_Se_gatherChoices ∈ zws := zmem 400 (by decide +kernel) (by decide +kernel)
theorem wc_Se_addChoice : Cond.code y_Se_addChoice b_Se_addChoice 8 none ∈ zws := zmem 406 (by decide +kernel) (by decide +kernel)
theorem wi_Se_addChoice : Cond.instanceMethod y_Se_addChoice ∈ zws := zmem 405 (by decide +kernel) (by decide +kernel)
theorem wc_Se_open : Cond.code y_Se_open b_Se_open 2 none ∈ zws := zmem 411 (by decide +kernel) (by decide +kernel)
theorem wi_Se_open : Cond.instanceMethod y_Se_open ∈ zws := zmem 410 (by decide +kernel) (by decide +kernel)
theorem wc_Se_visit : Cond.code y_Se_visit b_Se_visit 3 none ∈ zws := zmem 415 (by decide +kernel) (by decide +kernel)
theorem wi_Se_visit : Cond.instanceMethod y_Se_visit ∈ zws := zmem 414 (by decide +kernel) (by decide +kernel)
theorem wc_Ln_boundWithin : Cond.code y_Ln_boundWithin b_Ln_boundWithin 5 (some .int) ∈ zws := zmem 419 (by decide +kernel) (by decide +kernel)
theorem wi_Ln_boundWithin : Cond.instanceMethod y_Ln_boundWithin ∈ zws := zmem 417 (by decide +kernel) (by decide +kernel)
theorem wc_Ln_peakOf : Cond.code y_Ln_peakOf b_Ln_peakOf 5 (some .int) ∈ zws := zmem 423 (by decide +kernel) (by decide +kernel)
theorem wi_Ln_peakOf : Cond.instanceMethod y_Ln_peakOf ∈ zws := zmem 422 (by decide +kernel) (by decide +kernel)
theorem wc_Se_settle : Cond.code y_Se_settle b_Se_settle 5 none ∈ zws := zmem 428 (by decide +kernel) (by decide +kernel)
theorem wi_Se_settle : Cond.instanceMethod y_Se_settle ∈ zws := zmem 427 (by decide +kernel) (by decide +kernel)
theorem wc_Se_costOf : Cond.code y_Se_costOf b_Se_costOf 4 (some .int) ∈ zws := zmem 432 (by decide +kernel) (by decide +kernel)
theorem wi_Se_costOf : Cond.instanceMethod y_Se_costOf ∈ zws := zmem 431 (by decide +kernel) (by decide +kernel)
theorem wc_Se_keep : Cond.code y_Se_keep b_Se_keep 3 none ∈ zws := zmem 439 (by decide +kernel) (by decide +kernel)
theorem wi_Se_keep : Cond.instanceMethod y_Se_keep ∈ zws := zmem 438 (by decide +kernel) (by decide +kernel)
theorem wc_Se_differing : Cond.code y_Se_differing b_Se_differing 1 (some .int) ∈ zws := zmem 443 (by decide +kernel) (by decide +kernel)
theorem wi_Se_differing : Cond.instanceMethod y_Se_differing ∈ zws := zmem 441 (by decide +kernel) (by decide +kernel)
theorem wc_ES_nearestAt : Cond.code y_ES_nearestAt b_ES_nearestAt 3 (some .long) ∈ zws := zmem 447 (by decide +kernel) (by decide +kernel)
theorem wi_ES_nearestAt : Cond.instanceMethod y_ES_nearestAt ∈ zws := zmem 445 (by decide +kernel) (by decide +kernel)
theorem wc_Se_foundIn : Cond.code y_Se_foundIn b_Se_foundIn 2 (some .int) ∈ zws := zmem 451 (by decide +kernel) (by decide +kernel)
theorem wi_Se_foundIn : Cond.instanceMethod y_Se_foundIn ∈ zws := zmem 449 (by decide +kernel) (by decide +kernel)
theorem wc_ES_value : Cond.code y_ES_value b_ES_value 3 (some .long) ∈ zws := zmem 462 (by decide +kernel) (by decide +kernel)
theorem wi_ES_value : Cond.instanceMethod y_ES_value ∈ zws := zmem 460 (by decide +kernel) (by decide +kernel)
theorem wc_ES_isPart : Cond.code y_ES_isPart b_ES_isPart 1 (some .boolean) ∈ zws := zmem 465 (by decide +kernel) (by decide +kernel)
theorem wst_ES_isPart : Cond.static y_ES_isPart ∈ zws := zmem 464 (by decide +kernel) (by decide +kernel)
theorem wc_ES_told : Cond.code y_ES_told b_ES_told 7 (some .long) ∈ zws := zmem 469 (by decide +kernel) (by decide +kernel)
theorem wst_ES_told : Cond.static y_ES_told ∈ zws := zmem 468 (by decide +kernel) (by decide +kernel)
theorem wc_ES_commonDivisor : Cond.code y_ES_commonDivisor b_ES_commonDivisor 11 (some .long) ∈ zws := zmem 539 (by decide +kernel) (by decide +kernel)
theorem wst_ES_commonDivisor : Cond.static y_ES_commonDivisor ∈ zws := zmem 538 (by decide +kernel) (by decide +kernel)
theorem wc_ES_share : Cond.code y_ES_share b_ES_share 6 (some .long) ∈ zws := zmem 546 (by decide +kernel) (by decide +kernel)
theorem wi_ES_share : Cond.instanceMethod y_ES_share ∈ zws := zmem 544 (by decide +kernel) (by decide +kernel)
theorem wc_ES_isManner : Cond.code y_ES_isManner b_ES_isManner 1 (some .boolean) ∈ zws := zmem 549 (by decide +kernel) (by decide +kernel)
theorem wst_ES_isManner : Cond.static y_ES_isManner ∈ zws := zmem 548 (by decide +kernel) (by decide +kernel)
theorem wc_Gr_ofColumn : Cond.code y_Gr_ofColumn b_Gr_ofColumn 2 (some .int) ∈ zws := zmem 553 (by decide +kernel) (by decide +kernel)
theorem wi_Gr_ofColumn : Cond.instanceMethod y_Gr_ofColumn ∈ zws := zmem 551 (by decide +kernel) (by decide +kernel)
theorem wc_Me_shareWays : Cond.code y_Me_shareWays b_Me_shareWays 3 (some .long) ∈ zws := zmem 558 (by decide +kernel) (by decide +kernel)
theorem wi_Me_shareWays : Cond.instanceMethod y_Me_shareWays ∈ zws := zmem 556 (by decide +kernel) (by decide +kernel)
theorem wc_ES_both : Cond.code y_ES_both b_ES_both 6 (some .long) ∈ zws := zmem 566 (by decide +kernel) (by decide +kernel)
theorem wi_ES_both : Cond.instanceMethod y_ES_both ∈ zws := zmem 564 (by decide +kernel) (by decide +kernel)
theorem wc_Me_togetherSum : Cond.code y_Me_togetherSum b_Me_togetherSum 13 (some .long) ∈ zws := zmem 570 (by decide +kernel) (by decide +kernel)
theorem wi_Me_togetherSum : Cond.instanceMethod y_Me_togetherSum ∈ zws := zmem 568 (by decide +kernel) (by decide +kernel)
theorem wc_Me_togetherWays : Cond.code y_Me_togetherWays b_Me_togetherWays 1 (some .long) ∈ zws := zmem 574 (by decide +kernel) (by decide +kernel)
theorem wi_Me_togetherWays : Cond.instanceMethod y_Me_togetherWays ∈ zws := zmem 572 (by decide +kernel) (by decide +kernel)
theorem wc_ES_drawn : Cond.code y_ES_drawn b_ES_drawn 7 (some .long) ∈ zws := zmem 581 (by decide +kernel) (by decide +kernel)
theorem wi_ES_drawn : Cond.instanceMethod y_ES_drawn ∈ zws := zmem 579 (by decide +kernel) (by decide +kernel)
theorem wc_Me_drawnSum : Cond.code y_Me_drawnSum b_Me_drawnSum 8 (some .long) ∈ zws := zmem 585 (by decide +kernel) (by decide +kernel)
theorem wi_Me_drawnSum : Cond.instanceMethod y_Me_drawnSum ∈ zws := zmem 583 (by decide +kernel) (by decide +kernel)
theorem wc_Or_start : Cond.code y_Or_start b_Or_start 2 none ∈ zws := zmem 589 (by decide +kernel) (by decide +kernel)
theorem wi_Or_start : Cond.instanceMethod y_Or_start ∈ zws := zmem 587 (by decide +kernel) (by decide +kernel)
theorem wc_Or_drawNext : Cond.code y_Or_drawNext b_Or_drawNext 4 none ∈ zws := zmem 593 (by decide +kernel) (by decide +kernel)
theorem wi_Or_drawNext : Cond.instanceMethod y_Or_drawNext ∈ zws := zmem 591 (by decide +kernel) (by decide +kernel)
theorem wc_Or_lineUp : Cond.code y_Or_lineUp b_Or_lineUp 3 none ∈ zws := zmem 597 (by decide +kernel) (by decide +kernel)
theorem wi_Or_lineUp : Cond.instanceMethod y_Or_lineUp ∈ zws := zmem 596 (by decide +kernel) (by decide +kernel)
theorem wc_Or_below : Cond.code y_Or_below b_Or_below 2 (some .int) ∈ zws := zmem 602 (by decide +kernel) (by decide +kernel)
theorem wi_Or_below : Cond.instanceMethod y_Or_below ∈ zws := zmem 601 (by decide +kernel) (by decide +kernel)
theorem wc_Or_groupsBefore : Cond.code y_Or_groupsBefore b_Or_groupsBefore 4 (some .int) ∈ zws := zmem 607 (by decide +kernel) (by decide +kernel)
theorem wi_Or_groupsBefore : Cond.instanceMethod y_Or_groupsBefore ∈ zws := zmem 605 (by decide +kernel) (by decide +kernel)
theorem wc_ES_partial : Cond.code y_ES_partial b_ES_partial 4 (some .long) ∈ zws := zmem 614 (by decide +kernel) (by decide +kernel)
theorem wi_ES_partial : Cond.instanceMethod y_ES_partial ∈ zws := zmem 612 (by decide +kernel) (by decide +kernel)
theorem wc_Me_replacedSum : Cond.code y_Me_replacedSum b_Me_replacedSum 6 (some .long) ∈ zws := zmem 618 (by decide +kernel) (by decide +kernel)
theorem wi_Me_replacedSum : Cond.instanceMethod y_Me_replacedSum ∈ zws := zmem 616 (by decide +kernel) (by decide +kernel)
theorem wc_Me_sumWith : Cond.code y_Me_sumWith b_Me_sumWith 5 (some .long) ∈ zws := zmem 622 (by decide +kernel) (by decide +kernel)
theorem wi_Me_sumWith : Cond.instanceMethod y_Me_sumWith ∈ zws := zmem 621 (by decide +kernel) (by decide +kernel)
theorem wc_ES_worth : Cond.code y_ES_worth b_ES_worth 3 (some .long) ∈ zws := zmem 629 (by decide +kernel) (by decide +kernel)
theorem wi_ES_worth : Cond.instanceMethod y_ES_worth ∈ zws := zmem 627 (by decide +kernel) (by decide +kernel)
theorem wc_Me_changeSum : Cond.code y_Me_changeSum b_Me_changeSum 11 (some .long) ∈ zws := zmem 633 (by decide +kernel) (by decide +kernel)
theorem wi_Me_changeSum : Cond.instanceMethod y_Me_changeSum ∈ zws := zmem 631 (by decide +kernel) (by decide +kernel)
theorem wc_Md_init : Cond.code y_Md_init b_Md_init 2 none ∈ zws := zmem 638 (by decide +kernel) (by decide +kernel)
theorem wi_Md_init : Cond.instanceMethod y_Md_init ∈ zws := zmem 637 (by decide +kernel) (by decide +kernel)
theorem wc_Md_clear : Cond.code y_Md_clear b_Md_clear 3 (some .int) ∈ zws := zmem 643 (by decide +kernel) (by decide +kernel)
theorem wi_Md_clear : Cond.instanceMethod y_Md_clear ∈ zws := zmem 641 (by decide +kernel) (by decide +kernel)
theorem wc_Md_thrown : Cond.code y_Md_thrown b_Md_thrown 1 (some .int) ∈ zws := zmem 723 (by decide +kernel) (by decide +kernel)
theorem wi_Md_thrown : Cond.instanceMethod y_Md_thrown ∈ zws := zmem 721 (by decide +kernel) (by decide +kernel)
theorem wc_Md_leaf : Cond.code y_Md_leaf b_Md_leaf 2 (some .int) ∈ zws := zmem 727 (by decide +kernel) (by decide +kernel)
theorem wi_Md_leaf : Cond.instanceMethod y_Md_leaf ∈ zws := zmem 725 (by decide +kernel) (by decide +kernel)
theorem wc_Md_in : Cond.code y_Md_in b_Md_in 3 (some .boolean) ∈ zws := zmem 730 (by decide +kernel) (by decide +kernel)
theorem wst_Md_in : Cond.static y_Md_in ∈ zws := zmem 729 (by decide +kernel) (by decide +kernel)
theorem wc_Md_split : Cond.code y_Md_split b_Md_split 5 (some .int) ∈ zws := zmem 734 (by decide +kernel) (by decide +kernel)
theorem wi_Md_split : Cond.instanceMethod y_Md_split ∈ zws := zmem 732 (by decide +kernel) (by decide +kernel)
theorem wc_Md_isColumn : Cond.code y_Md_isColumn b_Md_isColumn 2 (some .boolean) ∈ zws := zmem 738 (by decide +kernel) (by decide +kernel)
theorem wi_Md_isColumn : Cond.instanceMethod y_Md_isColumn ∈ zws := zmem 737 (by decide +kernel) (by decide +kernel)
theorem wc_Md_root : Cond.code y_Md_root b_Md_root 2 (some .int) ∈ zws := zmem 742 (by decide +kernel) (by decide +kernel)
theorem wi_Md_root : Cond.instanceMethod y_Md_root ∈ zws := zmem 740 (by decide +kernel) (by decide +kernel)
theorem wc_Md_weight : Cond.code y_Md_weight b_Md_weight 3 (some .int) ∈ zws := zmem 746 (by decide +kernel) (by decide +kernel)
theorem wi_Md_weight : Cond.instanceMethod y_Md_weight ∈ zws := zmem 744 (by decide +kernel) (by decide +kernel)
theorem wc_Md_background : Cond.code y_Md_background b_Md_background 2 (some .int) ∈ zws := zmem 751 (by decide +kernel) (by decide +kernel)
theorem wi_Md_background : Cond.instanceMethod y_Md_background ∈ zws := zmem 749 (by decide +kernel) (by decide +kernel)
theorem wc_Md_item : Cond.code y_Md_item b_Md_item 4 (some .int) ∈ zws := zmem 755 (by decide +kernel) (by decide +kernel)
theorem wi_Md_item : Cond.instanceMethod y_Md_item ∈ zws := zmem 753 (by decide +kernel) (by decide +kernel)
theorem wc_Md_group : Cond.code y_Md_group b_Md_group 4 (some .int) ∈ zws := zmem 759 (by decide +kernel) (by decide +kernel)
theorem wi_Md_group : Cond.instanceMethod y_Md_group ∈ zws := zmem 757 (by decide +kernel) (by decide +kernel)
theorem wc_Md_answer : Cond.code y_Md_answer b_Md_answer 2 (some .long) ∈ zws := zmem 763 (by decide +kernel) (by decide +kernel)
theorem wi_Md_answer : Cond.instanceMethod y_Md_answer ∈ zws := zmem 761 (by decide +kernel) (by decide +kernel)
theorem wc_Md_take : Cond.code y_Md_take b_Md_take 3 none ∈ zws := zmem 768 (by decide +kernel) (by decide +kernel)
theorem wi_Md_take : Cond.instanceMethod y_Md_take ∈ zws := zmem 767 (by decide +kernel) (by decide +kernel)
theorem wc_Md_answerNow : Cond.code y_Md_answerNow b_Md_answerNow 5 (some .long) ∈ zws := zmem 772 (by decide +kernel) (by decide +kernel)
theorem wi_Md_answerNow : Cond.instanceMethod y_Md_answerNow ∈ zws := zmem 771 (by decide +kernel) (by decide +kernel)
theorem wc_Md_value : Cond.code y_Md_value b_Md_value 3 (some .long) ∈ zws := zmem 776 (by decide +kernel) (by decide +kernel)
theorem wi_Md_value : Cond.instanceMethod y_Md_value ∈ zws := zmem 774 (by decide +kernel) (by decide +kernel)
theorem wc_Md_throwsNow : Cond.code y_Md_throwsNow b_Md_throwsNow 1 (some .boolean) ∈ zws := zmem 780 (by decide +kernel) (by decide +kernel)
theorem wi_Md_throwsNow : Cond.instanceMethod y_Md_throwsNow ∈ zws := zmem 779 (by decide +kernel) (by decide +kernel)
theorem wc_Md_sumAll : Cond.code y_Md_sumAll b_Md_sumAll 4 none ∈ zws := zmem 784 (by decide +kernel) (by decide +kernel)
theorem wi_Md_sumAll : Cond.instanceMethod y_Md_sumAll ∈ zws := zmem 783 (by decide +kernel) (by decide +kernel)
theorem wc_Md_part : Cond.code y_Md_part b_Md_part 11 (some .long) ∈ zws := zmem 787 (by decide +kernel) (by decide +kernel)
theorem wst_Md_part : Cond.static y_Md_part ∈ zws := zmem 786 (by decide +kernel) (by decide +kernel)
theorem wc_Md_share : Cond.code y_Md_share b_Md_share 7 (some .long) ∈ zws := zmem 791 (by decide +kernel) (by decide +kernel)
theorem wi_Md_share : Cond.instanceMethod y_Md_share ∈ zws := zmem 789 (by decide +kernel) (by decide +kernel)
theorem wc_Md_groupBits : Cond.code y_Md_groupBits b_Md_groupBits 4 (some .int) ∈ zws := zmem 795 (by decide +kernel) (by decide +kernel)
theorem wi_Md_groupBits : Cond.instanceMethod y_Md_groupBits ∈ zws := zmem 794 (by decide +kernel) (by decide +kernel)
theorem wc_Md_shareSum : Cond.code y_Md_shareSum b_Md_shareSum 6 (some .long) ∈ zws := zmem 799 (by decide +kernel) (by decide +kernel)
theorem wi_Md_shareSum : Cond.instanceMethod y_Md_shareSum ∈ zws := zmem 798 (by decide +kernel) (by decide +kernel)
theorem wc_Md_listParts : Cond.code y_Md_listParts b_Md_listParts 5 none ∈ zws := zmem 803 (by decide +kernel) (by decide +kernel)
theorem wi_Md_listParts : Cond.instanceMethod y_Md_listParts ∈ zws := zmem 802 (by decide +kernel) (by decide +kernel)
theorem wc_Md_orders : Cond.code y_Md_orders b_Md_orders 3 (some .int) ∈ zws := zmem 807 (by decide +kernel) (by decide +kernel)
theorem wi_Md_orders : Cond.instanceMethod y_Md_orders ∈ zws := zmem 806 (by decide +kernel) (by decide +kernel)
theorem wc_Md_layOrder : Cond.code y_Md_layOrder b_Md_layOrder 7 none ∈ zws := zmem 811 (by decide +kernel) (by decide +kernel)
theorem wi_Md_layOrder : Cond.instanceMethod y_Md_layOrder ∈ zws := zmem 810 (by decide +kernel) (by decide +kernel)
theorem wc_Md_before : Cond.code y_Md_before b_Md_before 4 (some .int) ∈ zws := zmem 815 (by decide +kernel) (by decide +kernel)
theorem wi_Md_before : Cond.instanceMethod y_Md_before ∈ zws := zmem 814 (by decide +kernel) (by decide +kernel)
theorem wc_Md_setSum : Cond.code y_Md_setSum b_Md_setSum 7 (some .long) ∈ zws := zmem 819 (by decide +kernel) (by decide +kernel)
theorem wi_Md_setSum : Cond.instanceMethod y_Md_setSum ∈ zws := zmem 818 (by decide +kernel) (by decide +kernel)
theorem wc_Md_both : Cond.code y_Md_both b_Md_both 10 (some .long) ∈ zws := zmem 823 (by decide +kernel) (by decide +kernel)
theorem wi_Md_both : Cond.instanceMethod y_Md_both ∈ zws := zmem 821 (by decide +kernel) (by decide +kernel)
theorem wc_Md_drawn : Cond.code y_Md_drawn b_Md_drawn 13 (some .long) ∈ zws := zmem 827 (by decide +kernel) (by decide +kernel)
theorem wi_Md_drawn : Cond.instanceMethod y_Md_drawn ∈ zws := zmem 825 (by decide +kernel) (by decide +kernel)
theorem wc_Md_partial : Cond.code y_Md_partial b_Md_partial 7 (some .long) ∈ zws := zmem 832 (by decide +kernel) (by decide +kernel)
theorem wi_Md_partial : Cond.instanceMethod y_Md_partial ∈ zws := zmem 830 (by decide +kernel) (by decide +kernel)
theorem wc_Md_worth : Cond.code y_Md_worth b_Md_worth 11 (some .long) ∈ zws := zmem 836 (by decide +kernel) (by decide +kernel)
theorem wi_Md_worth : Cond.instanceMethod y_Md_worth ∈ zws := zmem 834 (by decide +kernel) (by decide +kernel)
theorem wc_Md_rank : Cond.code y_Md_rank b_Md_rank 7 (some .int) ∈ zws := zmem 840 (by decide +kernel) (by decide +kernel)
theorem wi_Md_rank : Cond.instanceMethod y_Md_rank ∈ zws := zmem 838 (by decide +kernel) (by decide +kernel)
theorem wc_Md_findSizes : Cond.code y_Md_findSizes b_Md_findSizes 4 none ∈ zws := zmem 844 (by decide +kernel) (by decide +kernel)
theorem wi_Md_findSizes : Cond.instanceMethod y_Md_findSizes ∈ zws := zmem 843 (by decide +kernel) (by decide +kernel)
theorem wc_Md_bar : Cond.code y_Md_bar b_Md_bar 4 (some .int) ∈ zws := zmem 848 (by decide +kernel) (by decide +kernel)
theorem wi_Md_bar : Cond.instanceMethod y_Md_bar ∈ zws := zmem 846 (by decide +kernel) (by decide +kernel)
theorem wc_Md_nearest : Cond.code y_Md_nearest b_Md_nearest 2 (some .int) ∈ zws := zmem 852 (by decide +kernel) (by decide +kernel)
theorem wi_Md_nearest : Cond.instanceMethod y_Md_nearest ∈ zws := zmem 850 (by decide +kernel) (by decide +kernel)
theorem wc_Md_findNearest : Cond.code y_Md_findNearest b_Md_findNearest 5 (some .boolean) ∈ zws := zmem 856 (by decide +kernel) (by decide +kernel)
theorem wi_Md_findNearest : Cond.instanceMethod y_Md_findNearest ∈ zws := zmem 855 (by decide +kernel) (by decide +kernel)
theorem wc_Md_hold : Cond.code y_Md_hold b_Md_hold 7 none ∈ zws := zmem 860 (by decide +kernel) (by decide +kernel)
theorem wi_Md_hold : Cond.instanceMethod y_Md_hold ∈ zws := zmem 859 (by decide +kernel) (by decide +kernel)
theorem wc_Md_next : Cond.code y_Md_next b_Md_next 5 (some .int) ∈ zws := zmem 864 (by decide +kernel) (by decide +kernel)
theorem wi_Md_next : Cond.instanceMethod y_Md_next ∈ zws := zmem 863 (by decide +kernel) (by decide +kernel)
theorem wc_Md_nearestAt : Cond.code y_Md_nearestAt b_Md_nearestAt 3 (some .long) ∈ zws := zmem 868 (by decide +kernel) (by decide +kernel)
theorem wi_Md_nearestAt : Cond.instanceMethod y_Md_nearestAt ∈ zws := zmem 866 (by decide +kernel) (by decide +kernel)
theorem wini_Ln : Cond.initialized R_Ln ∈ zws := zmem 3 (by decide +kernel) (by decide +kernel)
theorem wini_Rw : Cond.initialized R_Rw ∈ zws := zmem 4 (by decide +kernel) (by decide +kernel)
theorem wini_Gr : Cond.initialized R_Gr ∈ zws := zmem 5 (by decide +kernel) (by decide +kernel)
theorem wini_Or : Cond.initialized R_Or ∈ zws := zmem 7 (by decide +kernel) (by decide +kernel)
theorem wini_Me : Cond.initialized R_Me ∈ zws := zmem 6 (by decide +kernel) (by decide +kernel)
theorem wini_Se : Cond.initialized R_Se ∈ zws := zmem 8 (by decide +kernel) (by decide +kernel)
theorem wini_ES : Cond.initialized R_ES ∈ zws := zmem 1 (by decide +kernel) (by decide +kernel)
theorem wini_Md : Cond.initialized R_Md ∈ zws := zmem 9 (by decide +kernel) (by decide +kernel)
theorem wini_In : Cond.initialized R_In ∈ zws := zmem 14 (by decide +kernel) (by decide +kernel)
theorem in_Ln : ∀ w ∈ u_ws R_Ln F_Ln 9, w ∈ zws := fun w h => by
  obtain ⟨k, hk, rfl⟩ := List.mem_map.mp h
  have hk := List.mem_range.mp hk
  match k, hk with
  | 0, _ => exact zmem 44 (by decide +kernel) (by decide +kernel)
  | 1, _ => exact zmem 46 (by decide +kernel) (by decide +kernel)
  | 2, _ => exact zmem 48 (by decide +kernel) (by decide +kernel)
  | 3, _ => exact zmem 50 (by decide +kernel) (by decide +kernel)
  | 4, _ => exact zmem 52 (by decide +kernel) (by decide +kernel)
  | 5, _ => exact zmem 54 (by decide +kernel) (by decide +kernel)
  | 6, _ => exact zmem 56 (by decide +kernel) (by decide +kernel)
  | 7, _ => exact zmem 58 (by decide +kernel) (by decide +kernel)
  | 8, _ => exact zmem 60 (by decide +kernel) (by decide +kernel)
  | k + 9, hk => exact absurd hk (by omega)
theorem wf_Ln_9 : Cond.fieldLink R_Ln 9 "ExactShares2$Learner" "columnOf" "[I" ∈ zws := zmem 35 (by decide +kernel) (by decide +kernel)
theorem wf_Ln_15 : Cond.fieldLink R_Ln 15 "ExactShares2$Learner" "numberOf" "[I" ∈ zws := zmem 36 (by decide +kernel) (by decide +kernel)
theorem wf_Ln_18 : Cond.fieldLink R_Ln 18 "ExactShares2$Learner" "lowOf" "[I" ∈ zws := zmem 37 (by decide +kernel) (by decide +kernel)
theorem wf_Ln_21 : Cond.fieldLink R_Ln 21 "ExactShares2$Learner" "highOf" "[I" ∈ zws := zmem 38 (by decide +kernel) (by decide +kernel)
theorem wf_Ln_24 : Cond.fieldLink R_Ln 24 "ExactShares2$Learner" "peaks" "[I" ∈ zws := zmem 39 (by decide +kernel) (by decide +kernel)
theorem wf_Ln_27 : Cond.fieldLink R_Ln 27 "ExactShares2$Learner" "roots" "[I" ∈ zws := zmem 40 (by decide +kernel) (by decide +kernel)
theorem wf_Ln_30 : Cond.fieldLink R_Ln 30 "ExactShares2$Learner" "weights" "[I" ∈ zws := zmem 41 (by decide +kernel) (by decide +kernel)
theorem wf_Ln_33 : Cond.fieldLink R_Ln 33 "ExactShares2$Learner" "nodeCount" "I" ∈ zws := zmem 42 (by decide +kernel) (by decide +kernel)
theorem wf_Ln_37 : Cond.fieldLink R_Ln 37 "ExactShares2$Learner" "rootCount" "I" ∈ zws := zmem 43 (by decide +kernel) (by decide +kernel)
theorem in_Rw : ∀ w ∈ u_ws R_Rw F_Rw 3, w ∈ zws := fun w h => by
  obtain ⟨k, hk, rfl⟩ := List.mem_map.mp h
  have hk := List.mem_range.mp hk
  match k, hk with
  | 0, _ => exact zmem 75 (by decide +kernel) (by decide +kernel)
  | 1, _ => exact zmem 77 (by decide +kernel) (by decide +kernel)
  | 2, _ => exact zmem 79 (by decide +kernel) (by decide +kernel)
  | k + 3, hk => exact absurd hk (by omega)
theorem wf_Rw_9 : Cond.fieldLink R_Rw 9 "ExactShares2$Rows" "looked" "[I" ∈ zws := zmem 72 (by decide +kernel) (by decide +kernel)
theorem wf_Rw_17 : Cond.fieldLink R_Rw 17 "ExactShares2$Rows" "behind" "[[I" ∈ zws := zmem 73 (by decide +kernel) (by decide +kernel)
theorem wf_Rw_20 : Cond.fieldLink R_Rw 20 "ExactShares2$Rows" "count" "I" ∈ zws := zmem 74 (by decide +kernel) (by decide +kernel)
theorem in_Gr : ∀ w ∈ u_ws R_Gr F_Gr 2, w ∈ zws := fun w h => by
  obtain ⟨k, hk, rfl⟩ := List.mem_map.mp h
  have hk := List.mem_range.mp hk
  match k, hk with
  | 0, _ => exact zmem 94 (by decide +kernel) (by decide +kernel)
  | 1, _ => exact zmem 96 (by decide +kernel) (by decide +kernel)
  | k + 2, hk => exact absurd hk (by omega)
theorem wf_Gr_15 : Cond.fieldLink R_Gr 15 "ExactShares2$Groups" "columns" "I" ∈ zws := zmem 92 (by decide +kernel) (by decide +kernel)
theorem wf_Gr_9 : Cond.fieldLink R_Gr 9 "ExactShares2$Groups" "groupOf" "[I" ∈ zws := zmem 93 (by decide +kernel) (by decide +kernel)
theorem in_Or : ∀ w ∈ u_ws R_Or F_Or 4, w ∈ zws := fun w h => by
  obtain ⟨k, hk, rfl⟩ := List.mem_map.mp h
  have hk := List.mem_range.mp hk
  match k, hk with
  | 0, _ => exact zmem 115 (by decide +kernel) (by decide +kernel)
  | 1, _ => exact zmem 117 (by decide +kernel) (by decide +kernel)
  | 2, _ => exact zmem 119 (by decide +kernel) (by decide +kernel)
  | 3, _ => exact zmem 121 (by decide +kernel) (by decide +kernel)
  | k + 4, hk => exact absurd hk (by omega)
theorem wf_Or_22 : Cond.fieldLink R_Or 22 "ExactShares2$Orders" "groups" "LExactShares2$Groups;" ∈ zws := zmem 111 (by decide +kernel) (by decide +kernel)
theorem wf_Or_9 : Cond.fieldLink R_Or 9 "ExactShares2$Orders" "order" "[I" ∈ zws := zmem 112 (by decide +kernel) (by decide +kernel)
theorem wf_Or_15 : Cond.fieldLink R_Or 15 "ExactShares2$Orders" "count" "I" ∈ zws := zmem 113 (by decide +kernel) (by decide +kernel)
theorem wf_Or_19 : Cond.fieldLink R_Or 19 "ExactShares2$Orders" "z" "I" ∈ zws := zmem 114 (by decide +kernel) (by decide +kernel)
theorem in_Me : ∀ w ∈ u_ws R_Me F_Me 6, w ∈ zws := fun w h => by
  obtain ⟨k, hk, rfl⟩ := List.mem_map.mp h
  have hk := List.mem_range.mp hk
  match k, hk with
  | 0, _ => exact zmem 131 (by decide +kernel) (by decide +kernel)
  | 1, _ => exact zmem 133 (by decide +kernel) (by decide +kernel)
  | 2, _ => exact zmem 135 (by decide +kernel) (by decide +kernel)
  | 3, _ => exact zmem 137 (by decide +kernel) (by decide +kernel)
  | 4, _ => exact zmem 139 (by decide +kernel) (by decide +kernel)
  | 5, _ => exact zmem 141 (by decide +kernel) (by decide +kernel)
  | k + 6, hk => exact absurd hk (by omega)
theorem wf_Me_19 : Cond.fieldLink R_Me 19 "ExactShares2$Means" "learner" "LExactShares2$Learner;" ∈ zws := zmem 125 (by decide +kernel) (by decide +kernel)
theorem wf_Me_23 : Cond.fieldLink R_Me 23 "ExactShares2$Means" "rows" "LExactShares2$Rows;" ∈ zws := zmem 126 (by decide +kernel) (by decide +kernel)
theorem wf_Me_27 : Cond.fieldLink R_Me 27 "ExactShares2$Means" "groups" "LExactShares2$Groups;" ∈ zws := zmem 127 (by decide +kernel) (by decide +kernel)
theorem wf_Me_36 : Cond.fieldLink R_Me 36 "ExactShares2$Means" "orders" "LExactShares2$Orders;" ∈ zws := zmem 128 (by decide +kernel) (by decide +kernel)
theorem wf_Me_9 : Cond.fieldLink R_Me 9 "ExactShares2$Means" "mixed" "[I" ∈ zws := zmem 129 (by decide +kernel) (by decide +kernel)
theorem wf_Me_15 : Cond.fieldLink R_Me 15 "ExactShares2$Means" "sizes" "[J" ∈ zws := zmem 130 (by decide +kernel) (by decide +kernel)
theorem in_Se : ∀ w ∈ u_ws R_Se F_Se 11, w ∈ zws := fun w h => by
  obtain ⟨k, hk, rfl⟩ := List.mem_map.mp h
  have hk := List.mem_range.mp hk
  match k, hk with
  | 0, _ => exact zmem 163 (by decide +kernel) (by decide +kernel)
  | 1, _ => exact zmem 165 (by decide +kernel) (by decide +kernel)
  | 2, _ => exact zmem 167 (by decide +kernel) (by decide +kernel)
  | 3, _ => exact zmem 169 (by decide +kernel) (by decide +kernel)
  | 4, _ => exact zmem 171 (by decide +kernel) (by decide +kernel)
  | 5, _ => exact zmem 173 (by decide +kernel) (by decide +kernel)
  | 6, _ => exact zmem 175 (by decide +kernel) (by decide +kernel)
  | 7, _ => exact zmem 177 (by decide +kernel) (by decide +kernel)
  | 8, _ => exact zmem 179 (by decide +kernel) (by decide +kernel)
  | 9, _ => exact zmem 181 (by decide +kernel) (by decide +kernel)
  | 10, _ => exact zmem 183 (by decide +kernel) (by decide +kernel)
  | k + 11, hk => exact absurd hk (by omega)
theorem wf_Se_41 : Cond.fieldLink R_Se 41 "ExactShares2$Search" "columns" "I" ∈ zws := zmem 152 (by decide +kernel) (by decide +kernel)
theorem wf_Se_44 : Cond.fieldLink R_Se 44 "ExactShares2$Search" "learner" "LExactShares2$Learner;" ∈ zws := zmem 153 (by decide +kernel) (by decide +kernel)
theorem wf_Se_48 : Cond.fieldLink R_Se 48 "ExactShares2$Search" "rows" "LExactShares2$Rows;" ∈ zws := zmem 154 (by decide +kernel) (by decide +kernel)
theorem wf_Se_9 : Cond.fieldLink R_Se 9 "ExactShares2$Search" "barred" "[Z" ∈ zws := zmem 155 (by decide +kernel) (by decide +kernel)
theorem wf_Se_17 : Cond.fieldLink R_Se 17 "ExactShares2$Search" "choices" "[[I" ∈ zws := zmem 156 (by decide +kernel) (by decide +kernel)
theorem wf_Se_20 : Cond.fieldLink R_Se 20 "ExactShares2$Search" "choiceCounts" "[I" ∈ zws := zmem 157 (by decide +kernel) (by decide +kernel)
theorem wf_Se_24 : Cond.fieldLink R_Se 24 "ExactShares2$Search" "least" "[I" ∈ zws := zmem 158 (by decide +kernel) (by decide +kernel)
theorem wf_Se_27 : Cond.fieldLink R_Se 27 "ExactShares2$Search" "most" "[I" ∈ zws := zmem 159 (by decide +kernel) (by decide +kernel)
theorem wf_Se_30 : Cond.fieldLink R_Se 30 "ExactShares2$Search" "best" "[I" ∈ zws := zmem 160 (by decide +kernel) (by decide +kernel)
theorem wf_Se_34 : Cond.fieldLink R_Se 34 "ExactShares2$Search" "bestCost" "I" ∈ zws := zmem 161 (by decide +kernel) (by decide +kernel)
theorem wf_Se_38 : Cond.fieldLink R_Se 38 "ExactShares2$Search" "wanted" "I" ∈ zws := zmem 162 (by decide +kernel) (by decide +kernel)
theorem in_ES : ∀ w ∈ u_ws R_ES F_ES 6, w ∈ zws := fun w h => by
  obtain ⟨k, hk, rfl⟩ := List.mem_map.mp h
  have hk := List.mem_range.mp hk
  match k, hk with
  | 0, _ => exact zmem 193 (by decide +kernel) (by decide +kernel)
  | 1, _ => exact zmem 195 (by decide +kernel) (by decide +kernel)
  | 2, _ => exact zmem 197 (by decide +kernel) (by decide +kernel)
  | 3, _ => exact zmem 199 (by decide +kernel) (by decide +kernel)
  | 4, _ => exact zmem 201 (by decide +kernel) (by decide +kernel)
  | 5, _ => exact zmem 203 (by decide +kernel) (by decide +kernel)
  | k + 6, hk => exact absurd hk (by omega)
theorem wf_ES_18 : Cond.fieldLink R_ES 18 "ExactShares2" "columns" "I" ∈ zws := zmem 187 (by decide +kernel) (by decide +kernel)
theorem wf_ES_25 : Cond.fieldLink R_ES 25 "ExactShares2" "learner" "LExactShares2$Learner;" ∈ zws := zmem 188 (by decide +kernel) (by decide +kernel)
theorem wf_ES_32 : Cond.fieldLink R_ES 32 "ExactShares2" "rows" "LExactShares2$Rows;" ∈ zws := zmem 189 (by decide +kernel) (by decide +kernel)
theorem wf_ES_41 : Cond.fieldLink R_ES 41 "ExactShares2" "groups" "LExactShares2$Groups;" ∈ zws := zmem 190 (by decide +kernel) (by decide +kernel)
theorem wf_ES_50 : Cond.fieldLink R_ES 50 "ExactShares2" "means" "LExactShares2$Means;" ∈ zws := zmem 191 (by decide +kernel) (by decide +kernel)
theorem wf_ES_59 : Cond.fieldLink R_ES 59 "ExactShares2" "search" "LExactShares2$Search;" ∈ zws := zmem 192 (by decide +kernel) (by decide +kernel)
theorem in_Md : ∀ w ∈ u_ws R_Md F_Md 25, w ∈ zws := fun w h => by
  obtain ⟨k, hk, rfl⟩ := List.mem_map.mp h
  have hk := List.mem_range.mp hk
  match k, hk with
  | 0, _ => exact zmem 669 (by decide +kernel) (by decide +kernel)
  | 1, _ => exact zmem 671 (by decide +kernel) (by decide +kernel)
  | 2, _ => exact zmem 673 (by decide +kernel) (by decide +kernel)
  | 3, _ => exact zmem 675 (by decide +kernel) (by decide +kernel)
  | 4, _ => exact zmem 677 (by decide +kernel) (by decide +kernel)
  | 5, _ => exact zmem 679 (by decide +kernel) (by decide +kernel)
  | 6, _ => exact zmem 681 (by decide +kernel) (by decide +kernel)
  | 7, _ => exact zmem 683 (by decide +kernel) (by decide +kernel)
  | 8, _ => exact zmem 685 (by decide +kernel) (by decide +kernel)
  | 9, _ => exact zmem 687 (by decide +kernel) (by decide +kernel)
  | 10, _ => exact zmem 689 (by decide +kernel) (by decide +kernel)
  | 11, _ => exact zmem 691 (by decide +kernel) (by decide +kernel)
  | 12, _ => exact zmem 693 (by decide +kernel) (by decide +kernel)
  | 13, _ => exact zmem 695 (by decide +kernel) (by decide +kernel)
  | 14, _ => exact zmem 697 (by decide +kernel) (by decide +kernel)
  | 15, _ => exact zmem 699 (by decide +kernel) (by decide +kernel)
  | 16, _ => exact zmem 701 (by decide +kernel) (by decide +kernel)
  | 17, _ => exact zmem 703 (by decide +kernel) (by decide +kernel)
  | 18, _ => exact zmem 705 (by decide +kernel) (by decide +kernel)
  | 19, _ => exact zmem 707 (by decide +kernel) (by decide +kernel)
  | 20, _ => exact zmem 709 (by decide +kernel) (by decide +kernel)
  | 21, _ => exact zmem 711 (by decide +kernel) (by decide +kernel)
  | 22, _ => exact zmem 713 (by decide +kernel) (by decide +kernel)
  | 23, _ => exact zmem 715 (by decide +kernel) (by decide +kernel)
  | 24, _ => exact zmem 717 (by decide +kernel) (by decide +kernel)
  | k + 25, hk => exact absurd hk (by omega)
theorem wf_Md_71 : Cond.fieldLink R_Md 71 "ExactShares2Model" "code" "I" ∈ zws := zmem 644 (by decide +kernel) (by decide +kernel)
theorem wf_Md_63 : Cond.fieldLink R_Md 63 "ExactShares2Model" "columns" "I" ∈ zws := zmem 645 (by decide +kernel) (by decide +kernel)
theorem wf_Md_78 : Cond.fieldLink R_Md 78 "ExactShares2Model" "nodes" "I" ∈ zws := zmem 646 (by decide +kernel) (by decide +kernel)
theorem wf_Md_7 : Cond.fieldLink R_Md 7 "ExactShares2Model" "isLeaf" "[Z" ∈ zws := zmem 647 (by decide +kernel) (by decide +kernel)
theorem wf_Md_13 : Cond.fieldLink R_Md 13 "ExactShares2Model" "number" "[I" ∈ zws := zmem 648 (by decide +kernel) (by decide +kernel)
theorem wf_Md_17 : Cond.fieldLink R_Md 17 "ExactShares2Model" "splitOf" "[I" ∈ zws := zmem 649 (by decide +kernel) (by decide +kernel)
theorem wf_Md_20 : Cond.fieldLink R_Md 20 "ExactShares2Model" "low" "[I" ∈ zws := zmem 650 (by decide +kernel) (by decide +kernel)
theorem wf_Md_23 : Cond.fieldLink R_Md 23 "ExactShares2Model" "high" "[I" ∈ zws := zmem 651 (by decide +kernel) (by decide +kernel)
theorem wf_Md_85 : Cond.fieldLink R_Md 85 "ExactShares2Model" "roots" "I" ∈ zws := zmem 652 (by decide +kernel) (by decide +kernel)
theorem wf_Md_26 : Cond.fieldLink R_Md 26 "ExactShares2Model" "root" "[I" ∈ zws := zmem 653 (by decide +kernel) (by decide +kernel)
theorem wf_Md_29 : Cond.fieldLink R_Md 29 "ExactShares2Model" "weights" "[I" ∈ zws := zmem 654 (by decide +kernel) (by decide +kernel)
theorem wf_Md_32 : Cond.fieldLink R_Md 32 "ExactShares2Model" "groups" "[I" ∈ zws := zmem 655 (by decide +kernel) (by decide +kernel)
theorem wf_Md_35 : Cond.fieldLink R_Md 35 "ExactShares2Model" "barred" "[Z" ∈ zws := zmem 656 (by decide +kernel) (by decide +kernel)
theorem wf_Md_88 : Cond.fieldLink R_Md 88 "ExactShares2Model" "rows" "I" ∈ zws := zmem 657 (by decide +kernel) (by decide +kernel)
theorem wf_Md_38 : Cond.fieldLink R_Md 38 "ExactShares2Model" "items" "[I" ∈ zws := zmem 658 (by decide +kernel) (by decide +kernel)
theorem wf_Md_41 : Cond.fieldLink R_Md 41 "ExactShares2Model" "now" "[I" ∈ zws := zmem 659 (by decide +kernel) (by decide +kernel)
theorem wf_Md_44 : Cond.fieldLink R_Md 44 "ExactShares2Model" "sums" "[J" ∈ zws := zmem 660 (by decide +kernel) (by decide +kernel)
theorem wf_Md_112 : Cond.fieldLink R_Md 112 "ExactShares2Model" "many" "I" ∈ zws := zmem 661 (by decide +kernel) (by decide +kernel)
theorem wf_Md_48 : Cond.fieldLink R_Md 48 "ExactShares2Model" "parts" "[I" ∈ zws := zmem 662 (by decide +kernel) (by decide +kernel)
theorem wf_Md_51 : Cond.fieldLink R_Md 51 "ExactShares2Model" "order" "[I" ∈ zws := zmem 663 (by decide +kernel) (by decide +kernel)
theorem wf_Md_54 : Cond.fieldLink R_Md 54 "ExactShares2Model" "sizes" "[J" ∈ zws := zmem 664 (by decide +kernel) (by decide +kernel)
theorem wf_Md_57 : Cond.fieldLink R_Md 57 "ExactShares2Model" "from" "[I" ∈ zws := zmem 665 (by decide +kernel) (by decide +kernel)
theorem wf_Md_60 : Cond.fieldLink R_Md 60 "ExactShares2Model" "best" "[I" ∈ zws := zmem 666 (by decide +kernel) (by decide +kernel)
theorem wf_Md_143 : Cond.fieldLink R_Md 143 "ExactShares2Model" "bestMany" "I" ∈ zws := zmem 667 (by decide +kernel) (by decide +kernel)
theorem wf_Md_146 : Cond.fieldLink R_Md 146 "ExactShares2Model" "bestSum" "I" ∈ zws := zmem 668 (by decide +kernel) (by decide +kernel)
theorem wm_La_38 : Cond.methodLink R_La 38 y_ES_init ∈ zws := zmem 17 (by decide +kernel) (by decide +kernel)
theorem wm_ES_38 : Cond.methodLink R_ES 38 y_Gr_init ∈ zws := zmem 84 (by decide +kernel) (by decide +kernel)
theorem wm_Gr_19 : Cond.methodLink R_Gr 19 y_Gr_standAlone ∈ zws := zmem 88 (by decide +kernel) (by decide +kernel)
theorem wm_ES_47 : Cond.methodLink R_ES 47 y_Me_init ∈ zws := zmem 101 (by decide +kernel) (by decide +kernel)
theorem wm_Me_33 : Cond.methodLink R_Me 33 y_Or_init ∈ zws := zmem 107 (by decide +kernel) (by decide +kernel)
theorem wm_ES_56 : Cond.methodLink R_ES 56 y_Se_init ∈ zws := zmem 146 (by decide +kernel) (by decide +kernel)
theorem wm_La_44 : Cond.methodLink R_La 44 y_ES_leaf ∈ zws := zmem 206 (by decide +kernel) (by decide +kernel)
theorem wm_ES_63 : Cond.methodLink R_ES 63 y_ES_isWithin ∈ zws := zmem 210 (by decide +kernel) (by decide +kernel)
theorem wm_ES_67 : Cond.methodLink R_ES 67 y_Ln_addLeaf ∈ zws := zmem 213 (by decide +kernel) (by decide +kernel)
theorem wm_Ln_40 : Cond.methodLink R_Ln 40 y_Ln_addNode ∈ zws := zmem 217 (by decide +kernel) (by decide +kernel)
theorem wm_La_49 : Cond.methodLink R_La 49 y_ES_split ∈ zws := zmem 221 (by decide +kernel) (by decide +kernel)
theorem wm_ES_71 : Cond.methodLink R_ES 71 y_ES_isColumn ∈ zws := zmem 225 (by decide +kernel) (by decide +kernel)
theorem wm_ES_75 : Cond.methodLink R_ES 75 y_Ln_hasNode ∈ zws := zmem 229 (by decide +kernel) (by decide +kernel)
theorem wm_ES_78 : Cond.methodLink R_ES 78 y_Ln_addSplit ∈ zws := zmem 233 (by decide +kernel) (by decide +kernel)
theorem wm_La_54 : Cond.methodLink R_La 54 y_ES_root ∈ zws := zmem 237 (by decide +kernel) (by decide +kernel)
theorem wm_ES_82 : Cond.methodLink R_ES 82 y_Ln_addRoot ∈ zws := zmem 241 (by decide +kernel) (by decide +kernel)
theorem wm_La_58 : Cond.methodLink R_La 58 y_ES_weight ∈ zws := zmem 245 (by decide +kernel) (by decide +kernel)
theorem wm_ES_85 : Cond.methodLink R_ES 85 y_Ln_weigh ∈ zws := zmem 249 (by decide +kernel) (by decide +kernel)
theorem wm_La_63 : Cond.methodLink R_La 63 y_ES_clear ∈ zws := zmem 253 (by decide +kernel) (by decide +kernel)
theorem wm_ES_89 : Cond.methodLink R_ES 89 y_Ln_forget ∈ zws := zmem 257 (by decide +kernel) (by decide +kernel)
theorem wm_ES_93 : Cond.methodLink R_ES 93 y_Rw_forget ∈ zws := zmem 261 (by decide +kernel) (by decide +kernel)
theorem wm_Rw_24 : Cond.methodLink R_Rw 24 y_Rw_empty ∈ zws := zmem 265 (by decide +kernel) (by decide +kernel)
theorem wm_ES_95 : Cond.methodLink R_ES 95 y_Gr_standAlone ∈ zws := zmem 268 (by decide +kernel) (by decide +kernel)
theorem wm_ES_98 : Cond.methodLink R_ES 98 y_Se_unbarAll ∈ zws := zmem 269 (by decide +kernel) (by decide +kernel)
theorem wm_La_68 : Cond.methodLink R_La 68 y_ES_background ∈ zws := zmem 273 (by decide +kernel) (by decide +kernel)
theorem wm_ES_101 : Cond.methodLink R_ES 101 y_Rw_addRow ∈ zws := zmem 277 (by decide +kernel) (by decide +kernel)
theorem wm_La_72 : Cond.methodLink R_La 72 y_ES_item ∈ zws := zmem 281 (by decide +kernel) (by decide +kernel)
theorem wm_ES_104 : Cond.methodLink R_ES 104 y_Rw_has ∈ zws := zmem 285 (by decide +kernel) (by decide +kernel)
theorem wm_ES_107 : Cond.methodLink R_ES 107 y_Rw_at ∈ zws := zmem 289 (by decide +kernel) (by decide +kernel)
theorem wm_La_77 : Cond.methodLink R_La 77 y_ES_group ∈ zws := zmem 293 (by decide +kernel) (by decide +kernel)
theorem wm_ES_111 : Cond.methodLink R_ES 111 y_Gr_move ∈ zws := zmem 297 (by decide +kernel) (by decide +kernel)
theorem wm_La_81 : Cond.methodLink R_La 81 y_ES_answer ∈ zws := zmem 301 (by decide +kernel) (by decide +kernel)
theorem wm_ES_116 : Cond.methodLink R_ES 116 y_Ln_sumFor ∈ zws := zmem 306 (by decide +kernel) (by decide +kernel)
theorem wm_Ln_44 : Cond.methodLink R_Ln 44 y_Ln_givenBy ∈ zws := zmem 310 (by decide +kernel) (by decide +kernel)
theorem wm_La_110 : Cond.methodLink R_La 110 y_ES_rank ∈ zws := zmem 314 (by decide +kernel) (by decide +kernel)
theorem wm_ES_164 : Cond.methodLink R_ES 164 y_Gr_count ∈ zws := zmem 318 (by decide +kernel) (by decide +kernel)
theorem wm_Gr_22 : Cond.methodLink R_Gr 22 y_Gr_there ∈ zws := zmem 322 (by decide +kernel) (by decide +kernel)
theorem wm_Gr_26 : Cond.methodLink R_Gr 26 y_In_bitCount ∈ zws := zmem 326 (by decide +kernel) (by decide +kernel)
theorem wm_ES_127 : Cond.methodLink R_ES 127 y_Rw_count ∈ zws := zmem 332 (by decide +kernel) (by decide +kernel)
theorem wm_ES_165 : Cond.methodLink R_ES 165 y_Me_measureShares ∈ zws := zmem 336 (by decide +kernel) (by decide +kernel)
theorem wm_Me_64 : Cond.methodLink R_Me 64 y_Gr_there ∈ zws := zmem 340 (by decide +kernel) (by decide +kernel)
theorem wm_Me_103 : Cond.methodLink R_Me 103 y_Me_shareSum ∈ zws := zmem 341 (by decide +kernel) (by decide +kernel)
theorem wm_Me_69 : Cond.methodLink R_Me 69 y_Gr_columnsOf ∈ zws := zmem 345 (by decide +kernel) (by decide +kernel)
theorem wm_Me_73 : Cond.methodLink R_Me 73 y_In_bitCount ∈ zws := zmem 349 (by decide +kernel) (by decide +kernel)
theorem wm_Me_78 : Cond.methodLink R_Me 78 y_Me_ordersAround ∈ zws := zmem 350 (by decide +kernel) (by decide +kernel)
theorem wm_Me_82 : Cond.methodLink R_Me 82 y_Me_brought ∈ zws := zmem 356 (by decide +kernel) (by decide +kernel)
theorem wm_Me_60 : Cond.methodLink R_Me 60 y_Me_total ∈ zws := zmem 360 (by decide +kernel) (by decide +kernel)
theorem wm_Me_40 : Cond.methodLink R_Me 40 y_Rw_count ∈ zws := zmem 364 (by decide +kernel) (by decide +kernel)
theorem wm_Me_46 : Cond.methodLink R_Me 46 y_Rw_at ∈ zws := zmem 365 (by decide +kernel) (by decide +kernel)
theorem wm_Me_50 : Cond.methodLink R_Me 50 y_Me_mix ∈ zws := zmem 366 (by decide +kernel) (by decide +kernel)
theorem wm_Me_54 : Cond.methodLink R_Me 54 y_Ln_sumFor ∈ zws := zmem 370 (by decide +kernel) (by decide +kernel)
theorem wm_ES_168 : Cond.methodLink R_ES 168 y_Me_groupAtPlace ∈ zws := zmem 374 (by decide +kernel) (by decide +kernel)
theorem wm_Me_112 : Cond.methodLink R_Me 112 y_Me_countAhead ∈ zws := zmem 378 (by decide +kernel) (by decide +kernel)
theorem wm_La_114 : Cond.methodLink R_La 114 y_ES_bar ∈ zws := zmem 382 (by decide +kernel) (by decide +kernel)
theorem wm_ES_171 : Cond.methodLink R_ES 171 y_Se_setBarred ∈ zws := zmem 386 (by decide +kernel) (by decide +kernel)
theorem wm_La_119 : Cond.methodLink R_La 119 y_ES_nearest ∈ zws := zmem 390 (by decide +kernel) (by decide +kernel)
theorem wm_ES_175 : Cond.methodLink R_ES 175 y_Se_find ∈ zws := zmem 394 (by decide +kernel) (by decide +kernel)
theorem wm_Se_52 : Cond.methodLink R_Se 52 y_Se_gatherChoices ∈ zws := zmem 398 (by decide +kernel) (by decide +kernel)
theorem wm_Se_63 : Cond.methodLink R_Se 63 y_Rw_at ∈ zws := zmem 402 (by decide +kernel) (by decide +kernel)
theorem wm_Se_69 : Cond.methodLink R_Se 69 y_Se_addChoice ∈ zws := zmem 403 (by decide +kernel) (by decide +kernel)
theorem wm_Se_72 : Cond.methodLink R_Se 72 y_Rw_count ∈ zws := zmem 407 (by decide +kernel) (by decide +kernel)
theorem wm_Se_56 : Cond.methodLink R_Se 56 y_Se_open ∈ zws := zmem 408 (by decide +kernel) (by decide +kernel)
theorem wm_Se_59 : Cond.methodLink R_Se 59 y_Se_visit ∈ zws := zmem 412 (by decide +kernel) (by decide +kernel)
theorem wm_Se_76 : Cond.methodLink R_Se 76 y_Ln_boundWithin ∈ zws := zmem 416 (by decide +kernel) (by decide +kernel)
theorem wm_Ln_48 : Cond.methodLink R_Ln 48 y_Ln_peakOf ∈ zws := zmem 420 (by decide +kernel) (by decide +kernel)
theorem wm_Se_82 : Cond.methodLink R_Se 82 y_Se_settle ∈ zws := zmem 425 (by decide +kernel) (by decide +kernel)
theorem wm_Se_88 : Cond.methodLink R_Se 88 y_Se_costOf ∈ zws := zmem 429 (by decide +kernel) (by decide +kernel)
theorem wm_Se_85 : Cond.methodLink R_Se 85 y_Se_keep ∈ zws := zmem 436 (by decide +kernel) (by decide +kernel)
theorem wm_ES_178 : Cond.methodLink R_ES 178 y_Se_differing ∈ zws := zmem 440 (by decide +kernel) (by decide +kernel)
theorem wm_La_123 : Cond.methodLink R_La 123 y_ES_nearestAt ∈ zws := zmem 444 (by decide +kernel) (by decide +kernel)
theorem wm_ES_181 : Cond.methodLink R_ES 181 y_Se_foundIn ∈ zws := zmem 448 (by decide +kernel) (by decide +kernel)
theorem wm_La_32 : Cond.methodLink R_La 32 y_La_cell ∈ zws := zmem 452 (by decide +kernel) (by decide +kernel)
theorem wm_La_86 : Cond.methodLink R_La 86 y_La_value ∈ zws := zmem 455 (by decide +kernel) (by decide +kernel)
theorem wm_La_7 : Cond.methodLink R_La 7 y_ES_value ∈ zws := zmem 459 (by decide +kernel) (by decide +kernel)
theorem wm_ES_120 : Cond.methodLink R_ES 120 y_ES_isPart ∈ zws := zmem 463 (by decide +kernel) (by decide +kernel)
theorem wm_ES_123 : Cond.methodLink R_ES 123 y_Me_total ∈ zws := zmem 466 (by decide +kernel) (by decide +kernel)
theorem wm_ES_130 : Cond.methodLink R_ES 130 y_ES_told ∈ zws := zmem 467 (by decide +kernel) (by decide +kernel)
theorem wm_ES_195 : Cond.methodLink R_ES 195 y_ES_commonDivisor ∈ zws := zmem 537 (by decide +kernel) (by decide +kernel)
theorem wm_La_93 : Cond.methodLink R_La 93 y_La_share ∈ zws := zmem 540 (by decide +kernel) (by decide +kernel)
theorem wm_La_15 : Cond.methodLink R_La 15 y_ES_share ∈ zws := zmem 543 (by decide +kernel) (by decide +kernel)
theorem wm_ES_134 : Cond.methodLink R_ES 134 y_ES_isManner ∈ zws := zmem 547 (by decide +kernel) (by decide +kernel)
theorem wm_ES_137 : Cond.methodLink R_ES 137 y_Gr_ofColumn ∈ zws := zmem 550 (by decide +kernel) (by decide +kernel)
theorem wm_ES_140 : Cond.methodLink R_ES 140 y_Me_shareSum ∈ zws := zmem 554 (by decide +kernel) (by decide +kernel)
theorem wm_ES_144 : Cond.methodLink R_ES 144 y_Me_shareWays ∈ zws := zmem 555 (by decide +kernel) (by decide +kernel)
theorem wm_Me_85 : Cond.methodLink R_Me 85 y_Gr_count ∈ zws := zmem 559 (by decide +kernel) (by decide +kernel)
theorem wm_La_97 : Cond.methodLink R_La 97 y_La_both ∈ zws := zmem 560 (by decide +kernel) (by decide +kernel)
theorem wm_La_19 : Cond.methodLink R_La 19 y_ES_both ∈ zws := zmem 563 (by decide +kernel) (by decide +kernel)
theorem wm_ES_147 : Cond.methodLink R_ES 147 y_Me_togetherSum ∈ zws := zmem 567 (by decide +kernel) (by decide +kernel)
theorem wm_ES_150 : Cond.methodLink R_ES 150 y_Me_togetherWays ∈ zws := zmem 571 (by decide +kernel) (by decide +kernel)
theorem wm_La_100 : Cond.methodLink R_La 100 y_La_drawn ∈ zws := zmem 575 (by decide +kernel) (by decide +kernel)
theorem wm_La_22 : Cond.methodLink R_La 22 y_ES_drawn ∈ zws := zmem 578 (by decide +kernel) (by decide +kernel)
theorem wm_ES_154 : Cond.methodLink R_ES 154 y_Me_drawnSum ∈ zws := zmem 582 (by decide +kernel) (by decide +kernel)
theorem wm_Me_89 : Cond.methodLink R_Me 89 y_Or_start ∈ zws := zmem 586 (by decide +kernel) (by decide +kernel)
theorem wm_Me_93 : Cond.methodLink R_Me 93 y_Or_drawNext ∈ zws := zmem 590 (by decide +kernel) (by decide +kernel)
theorem wm_Or_26 : Cond.methodLink R_Or 26 y_Or_lineUp ∈ zws := zmem 594 (by decide +kernel) (by decide +kernel)
theorem wm_Or_33 : Cond.methodLink R_Or 33 y_Gr_there ∈ zws := zmem 598 (by decide +kernel) (by decide +kernel)
theorem wm_Or_29 : Cond.methodLink R_Or 29 y_Or_below ∈ zws := zmem 599 (by decide +kernel) (by decide +kernel)
theorem wm_Me_96 : Cond.methodLink R_Me 96 y_Or_groupsBefore ∈ zws := zmem 604 (by decide +kernel) (by decide +kernel)
theorem wm_La_104 : Cond.methodLink R_La 104 y_La_partial ∈ zws := zmem 608 (by decide +kernel) (by decide +kernel)
theorem wm_La_26 : Cond.methodLink R_La 26 y_ES_partial ∈ zws := zmem 611 (by decide +kernel) (by decide +kernel)
theorem wm_ES_158 : Cond.methodLink R_ES 158 y_Me_replacedSum ∈ zws := zmem 615 (by decide +kernel) (by decide +kernel)
theorem wm_Me_99 : Cond.methodLink R_Me 99 y_Me_sumWith ∈ zws := zmem 619 (by decide +kernel) (by decide +kernel)
theorem wm_La_107 : Cond.methodLink R_La 107 y_La_worth ∈ zws := zmem 623 (by decide +kernel) (by decide +kernel)
theorem wm_La_29 : Cond.methodLink R_La 29 y_ES_worth ∈ zws := zmem 626 (by decide +kernel) (by decide +kernel)
theorem wm_ES_161 : Cond.methodLink R_ES 161 y_Me_changeSum ∈ zws := zmem 630 (by decide +kernel) (by decide +kernel)
theorem wm_La_43 : Cond.methodLink R_La 43 y_Md_init ∈ zws := zmem 636 (by decide +kernel) (by decide +kernel)
theorem wm_Md_67 : Cond.methodLink R_Md 67 y_Md_clear ∈ zws := zmem 640 (by decide +kernel) (by decide +kernel)
theorem wm_La_90 : Cond.methodLink R_La 90 y_Md_thrown ∈ zws := zmem 720 (by decide +kernel) (by decide +kernel)
theorem wm_La_48 : Cond.methodLink R_La 48 y_Md_leaf ∈ zws := zmem 724 (by decide +kernel) (by decide +kernel)
theorem wm_Md_74 : Cond.methodLink R_Md 74 y_Md_in ∈ zws := zmem 728 (by decide +kernel) (by decide +kernel)
theorem wm_La_53 : Cond.methodLink R_La 53 y_Md_split ∈ zws := zmem 731 (by decide +kernel) (by decide +kernel)
theorem wm_Md_81 : Cond.methodLink R_Md 81 y_Md_isColumn ∈ zws := zmem 735 (by decide +kernel) (by decide +kernel)
theorem wm_La_57 : Cond.methodLink R_La 57 y_Md_root ∈ zws := zmem 739 (by decide +kernel) (by decide +kernel)
theorem wm_La_62 : Cond.methodLink R_La 62 y_Md_weight ∈ zws := zmem 743 (by decide +kernel) (by decide +kernel)
theorem wm_La_67 : Cond.methodLink R_La 67 y_Md_clear ∈ zws := zmem 747 (by decide +kernel) (by decide +kernel)
theorem wm_La_71 : Cond.methodLink R_La 71 y_Md_background ∈ zws := zmem 748 (by decide +kernel) (by decide +kernel)
theorem wm_La_76 : Cond.methodLink R_La 76 y_Md_item ∈ zws := zmem 752 (by decide +kernel) (by decide +kernel)
theorem wm_La_80 : Cond.methodLink R_La 80 y_Md_group ∈ zws := zmem 756 (by decide +kernel) (by decide +kernel)
theorem wm_La_85 : Cond.methodLink R_La 85 y_Md_answer ∈ zws := zmem 760 (by decide +kernel) (by decide +kernel)
theorem wm_Md_93 : Cond.methodLink R_Md 93 y_Md_take ∈ zws := zmem 765 (by decide +kernel) (by decide +kernel)
theorem wm_Md_97 : Cond.methodLink R_Md 97 y_Md_answerNow ∈ zws := zmem 769 (by decide +kernel) (by decide +kernel)
theorem wm_La_89 : Cond.methodLink R_La 89 y_Md_value ∈ zws := zmem 773 (by decide +kernel) (by decide +kernel)
theorem wm_Md_101 : Cond.methodLink R_Md 101 y_Md_throwsNow ∈ zws := zmem 777 (by decide +kernel) (by decide +kernel)
theorem wm_Md_105 : Cond.methodLink R_Md 105 y_Md_sumAll ∈ zws := zmem 781 (by decide +kernel) (by decide +kernel)
theorem wm_Md_108 : Cond.methodLink R_Md 108 y_Md_part ∈ zws := zmem 785 (by decide +kernel) (by decide +kernel)
theorem wm_La_96 : Cond.methodLink R_La 96 y_Md_share ∈ zws := zmem 788 (by decide +kernel) (by decide +kernel)
theorem wm_Md_115 : Cond.methodLink R_Md 115 y_Md_groupBits ∈ zws := zmem 792 (by decide +kernel) (by decide +kernel)
theorem wm_Md_132 : Cond.methodLink R_Md 132 y_Md_shareSum ∈ zws := zmem 796 (by decide +kernel) (by decide +kernel)
theorem wm_Md_119 : Cond.methodLink R_Md 119 y_Md_listParts ∈ zws := zmem 800 (by decide +kernel) (by decide +kernel)
theorem wm_Md_123 : Cond.methodLink R_Md 123 y_Md_orders ∈ zws := zmem 804 (by decide +kernel) (by decide +kernel)
theorem wm_Md_126 : Cond.methodLink R_Md 126 y_Md_layOrder ∈ zws := zmem 808 (by decide +kernel) (by decide +kernel)
theorem wm_Md_129 : Cond.methodLink R_Md 129 y_Md_before ∈ zws := zmem 812 (by decide +kernel) (by decide +kernel)
theorem wm_Md_136 : Cond.methodLink R_Md 136 y_Md_setSum ∈ zws := zmem 816 (by decide +kernel) (by decide +kernel)
theorem wm_La_99 : Cond.methodLink R_La 99 y_Md_both ∈ zws := zmem 820 (by decide +kernel) (by decide +kernel)
theorem wm_La_103 : Cond.methodLink R_La 103 y_Md_drawn ∈ zws := zmem 824 (by decide +kernel) (by decide +kernel)
theorem wm_La_106 : Cond.methodLink R_La 106 y_Md_partial ∈ zws := zmem 829 (by decide +kernel) (by decide +kernel)
theorem wm_La_109 : Cond.methodLink R_La 109 y_Md_worth ∈ zws := zmem 833 (by decide +kernel) (by decide +kernel)
theorem wm_La_113 : Cond.methodLink R_La 113 y_Md_rank ∈ zws := zmem 837 (by decide +kernel) (by decide +kernel)
theorem wm_Md_140 : Cond.methodLink R_Md 140 y_Md_findSizes ∈ zws := zmem 841 (by decide +kernel) (by decide +kernel)
theorem wm_La_118 : Cond.methodLink R_La 118 y_Md_bar ∈ zws := zmem 845 (by decide +kernel) (by decide +kernel)
theorem wm_La_122 : Cond.methodLink R_La 122 y_Md_nearest ∈ zws := zmem 849 (by decide +kernel) (by decide +kernel)
theorem wm_Md_156 : Cond.methodLink R_Md 156 y_Md_findNearest ∈ zws := zmem 853 (by decide +kernel) (by decide +kernel)
theorem wm_Md_149 : Cond.methodLink R_Md 149 y_Md_hold ∈ zws := zmem 857 (by decide +kernel) (by decide +kernel)
theorem wm_Md_153 : Cond.methodLink R_Md 153 y_Md_next ∈ zws := zmem 861 (by decide +kernel) (by decide +kernel)
theorem wm_La_126 : Cond.methodLink R_La 126 y_Md_nearestAt ∈ zws := zmem 865 (by decide +kernel) (by decide +kernel)
theorem ws_Gr_standAlone : Cond.selects R_Gr y_Gr_standAlone y_Gr_standAlone ∈ zws := zmem 90 (by decide +kernel) (by decide +kernel)
theorem ws_ES_leaf : Cond.selects R_ES y_ES_leaf y_ES_leaf ∈ zws := zmem 208 (by decide +kernel) (by decide +kernel)
theorem ws_Ln_addLeaf : Cond.selects R_Ln y_Ln_addLeaf y_Ln_addLeaf ∈ zws := zmem 215 (by decide +kernel) (by decide +kernel)
theorem ws_Ln_addNode : Cond.selects R_Ln y_Ln_addNode y_Ln_addNode ∈ zws := zsel 0 (by decide +kernel) (by decide +kernel)
theorem ws_ES_split : Cond.selects R_ES y_ES_split y_ES_split ∈ zws := zmem 223 (by decide +kernel) (by decide +kernel)
theorem ws_ES_isColumn : Cond.selects R_ES y_ES_isColumn y_ES_isColumn ∈ zws := zsel 1 (by decide +kernel) (by decide +kernel)
theorem ws_Ln_hasNode : Cond.selects R_Ln y_Ln_hasNode y_Ln_hasNode ∈ zws := zmem 231 (by decide +kernel) (by decide +kernel)
theorem ws_Ln_addSplit : Cond.selects R_Ln y_Ln_addSplit y_Ln_addSplit ∈ zws := zmem 235 (by decide +kernel) (by decide +kernel)
theorem ws_ES_root : Cond.selects R_ES y_ES_root y_ES_root ∈ zws := zmem 239 (by decide +kernel) (by decide +kernel)
theorem ws_Ln_addRoot : Cond.selects R_Ln y_Ln_addRoot y_Ln_addRoot ∈ zws := zmem 243 (by decide +kernel) (by decide +kernel)
theorem ws_ES_weight : Cond.selects R_ES y_ES_weight y_ES_weight ∈ zws := zmem 247 (by decide +kernel) (by decide +kernel)
theorem ws_Ln_weigh : Cond.selects R_Ln y_Ln_weigh y_Ln_weigh ∈ zws := zmem 251 (by decide +kernel) (by decide +kernel)
theorem ws_ES_clear : Cond.selects R_ES y_ES_clear y_ES_clear ∈ zws := zmem 255 (by decide +kernel) (by decide +kernel)
theorem ws_Ln_forget : Cond.selects R_Ln y_Ln_forget y_Ln_forget ∈ zws := zmem 259 (by decide +kernel) (by decide +kernel)
theorem ws_Rw_forget : Cond.selects R_Rw y_Rw_forget y_Rw_forget ∈ zws := zmem 263 (by decide +kernel) (by decide +kernel)
theorem ws_Se_unbarAll : Cond.selects R_Se y_Se_unbarAll y_Se_unbarAll ∈ zws := zmem 271 (by decide +kernel) (by decide +kernel)
theorem ws_ES_background : Cond.selects R_ES y_ES_background y_ES_background ∈ zws := zmem 275 (by decide +kernel) (by decide +kernel)
theorem ws_Rw_addRow : Cond.selects R_Rw y_Rw_addRow y_Rw_addRow ∈ zws := zmem 279 (by decide +kernel) (by decide +kernel)
theorem ws_ES_item : Cond.selects R_ES y_ES_item y_ES_item ∈ zws := zmem 283 (by decide +kernel) (by decide +kernel)
theorem ws_Rw_has : Cond.selects R_Rw y_Rw_has y_Rw_has ∈ zws := zmem 287 (by decide +kernel) (by decide +kernel)
theorem ws_Rw_at : Cond.selects R_Rw y_Rw_at y_Rw_at ∈ zws := zmem 291 (by decide +kernel) (by decide +kernel)
theorem ws_ES_group : Cond.selects R_ES y_ES_group y_ES_group ∈ zws := zmem 295 (by decide +kernel) (by decide +kernel)
theorem ws_Gr_move : Cond.selects R_Gr y_Gr_move y_Gr_move ∈ zws := zmem 299 (by decide +kernel) (by decide +kernel)
theorem ws_ES_answer : Cond.selects R_ES y_ES_answer y_ES_answer ∈ zws := zmem 303 (by decide +kernel) (by decide +kernel)
theorem ws_Ln_sumFor : Cond.selects R_Ln y_Ln_sumFor y_Ln_sumFor ∈ zws := zmem 308 (by decide +kernel) (by decide +kernel)
theorem ws_Ln_givenBy : Cond.selects R_Ln y_Ln_givenBy y_Ln_givenBy ∈ zws := zsel 2 (by decide +kernel) (by decide +kernel)
theorem ws_ES_rank : Cond.selects R_ES y_ES_rank y_ES_rank ∈ zws := zmem 316 (by decide +kernel) (by decide +kernel)
theorem ws_Gr_count : Cond.selects R_Gr y_Gr_count y_Gr_count ∈ zws := zmem 320 (by decide +kernel) (by decide +kernel)
theorem ws_Gr_there : Cond.selects R_Gr y_Gr_there y_Gr_there ∈ zws := zmem 324 (by decide +kernel) (by decide +kernel)
theorem ws_Rw_count : Cond.selects R_Rw y_Rw_count y_Rw_count ∈ zws := zmem 334 (by decide +kernel) (by decide +kernel)
theorem ws_Me_measureShares : Cond.selects R_Me y_Me_measureShares y_Me_measureShares ∈ zws := zmem 338 (by decide +kernel) (by decide +kernel)
theorem ws_Me_shareSum : Cond.selects R_Me y_Me_shareSum y_Me_shareSum ∈ zws := zmem 343 (by decide +kernel) (by decide +kernel)
theorem ws_Gr_columnsOf : Cond.selects R_Gr y_Gr_columnsOf y_Gr_columnsOf ∈ zws := zmem 347 (by decide +kernel) (by decide +kernel)
theorem ws_Me_brought : Cond.selects R_Me y_Me_brought y_Me_brought ∈ zws := zsel 3 (by decide +kernel) (by decide +kernel)
theorem ws_Me_total : Cond.selects R_Me y_Me_total y_Me_total ∈ zws := zmem 362 (by decide +kernel) (by decide +kernel)
theorem ws_Me_mix : Cond.selects R_Me y_Me_mix y_Me_mix ∈ zws := zsel 4 (by decide +kernel) (by decide +kernel)
theorem ws_Me_groupAtPlace : Cond.selects R_Me y_Me_groupAtPlace y_Me_groupAtPlace ∈ zws := zmem 376 (by decide +kernel) (by decide +kernel)
theorem ws_Me_countAhead : Cond.selects R_Me y_Me_countAhead y_Me_countAhead ∈ zws := zsel 5 (by decide +kernel) (by decide +kernel)
theorem ws_ES_bar : Cond.selects R_ES y_ES_bar y_ES_bar ∈ zws := zmem 384 (by decide +kernel) (by decide +kernel)
theorem ws_Se_setBarred : Cond.selects R_Se y_Se_setBarred y_Se_setBarred ∈ zws := zmem 388 (by decide +kernel) (by decide +kernel)
theorem ws_ES_nearest : Cond.selects R_ES y_ES_nearest y_ES_nearest ∈ zws := zmem 392 (by decide +kernel) (by decide +kernel)
theorem ws_Se_find : Cond.selects R_Se y_Se_find y_Se_find ∈ zws := zmem 396 (by decide +kernel) (by decide +kernel)
theorem ws_Se_gatherChoices : Cond.selects R_Se y_Se_gatherChoices y_Se_gatherChoices ∈ zws := zsel 6 (by decide +kernel) (by decide +kernel)
theorem ws_Se_addChoice : Cond.selects R_Se y_Se_addChoice y_Se_addChoice ∈ zws := zsel 7 (by decide +kernel) (by decide +kernel)
theorem ws_Se_open : Cond.selects R_Se y_Se_open y_Se_open ∈ zws := zsel 8 (by decide +kernel) (by decide +kernel)
theorem ws_Se_visit : Cond.selects R_Se y_Se_visit y_Se_visit ∈ zws := zsel 9 (by decide +kernel) (by decide +kernel)
theorem ws_Ln_boundWithin : Cond.selects R_Ln y_Ln_boundWithin y_Ln_boundWithin ∈ zws := zmem 418 (by decide +kernel) (by decide +kernel)
theorem ws_Ln_peakOf : Cond.selects R_Ln y_Ln_peakOf y_Ln_peakOf ∈ zws := zsel 10 (by decide +kernel) (by decide +kernel)
theorem ws_Se_settle : Cond.selects R_Se y_Se_settle y_Se_settle ∈ zws := zsel 11 (by decide +kernel) (by decide +kernel)
theorem ws_Se_costOf : Cond.selects R_Se y_Se_costOf y_Se_costOf ∈ zws := zsel 12 (by decide +kernel) (by decide +kernel)
theorem ws_Se_keep : Cond.selects R_Se y_Se_keep y_Se_keep ∈ zws := zsel 13 (by decide +kernel) (by decide +kernel)
theorem ws_Se_differing : Cond.selects R_Se y_Se_differing y_Se_differing ∈ zws := zmem 442 (by decide +kernel) (by decide +kernel)
theorem ws_ES_nearestAt : Cond.selects R_ES y_ES_nearestAt y_ES_nearestAt ∈ zws := zmem 446 (by decide +kernel) (by decide +kernel)
theorem ws_Se_foundIn : Cond.selects R_Se y_Se_foundIn y_Se_foundIn ∈ zws := zmem 450 (by decide +kernel) (by decide +kernel)
theorem ws_ES_value : Cond.selects R_ES y_ES_value y_ES_value ∈ zws := zmem 461 (by decide +kernel) (by decide +kernel)
theorem ws_ES_share : Cond.selects R_ES y_ES_share y_ES_share ∈ zws := zmem 545 (by decide +kernel) (by decide +kernel)
theorem ws_Gr_ofColumn : Cond.selects R_Gr y_Gr_ofColumn y_Gr_ofColumn ∈ zws := zmem 552 (by decide +kernel) (by decide +kernel)
theorem ws_Me_shareWays : Cond.selects R_Me y_Me_shareWays y_Me_shareWays ∈ zws := zmem 557 (by decide +kernel) (by decide +kernel)
theorem ws_ES_both : Cond.selects R_ES y_ES_both y_ES_both ∈ zws := zmem 565 (by decide +kernel) (by decide +kernel)
theorem ws_Me_togetherSum : Cond.selects R_Me y_Me_togetherSum y_Me_togetherSum ∈ zws := zmem 569 (by decide +kernel) (by decide +kernel)
theorem ws_Me_togetherWays : Cond.selects R_Me y_Me_togetherWays y_Me_togetherWays ∈ zws := zmem 573 (by decide +kernel) (by decide +kernel)
theorem ws_ES_drawn : Cond.selects R_ES y_ES_drawn y_ES_drawn ∈ zws := zmem 580 (by decide +kernel) (by decide +kernel)
theorem ws_Me_drawnSum : Cond.selects R_Me y_Me_drawnSum y_Me_drawnSum ∈ zws := zmem 584 (by decide +kernel) (by decide +kernel)
theorem ws_Or_start : Cond.selects R_Or y_Or_start y_Or_start ∈ zws := zmem 588 (by decide +kernel) (by decide +kernel)
theorem ws_Or_drawNext : Cond.selects R_Or y_Or_drawNext y_Or_drawNext ∈ zws := zmem 592 (by decide +kernel) (by decide +kernel)
theorem ws_Or_lineUp : Cond.selects R_Or y_Or_lineUp y_Or_lineUp ∈ zws := zsel 15 (by decide +kernel) (by decide +kernel)
theorem ws_Or_below : Cond.selects R_Or y_Or_below y_Or_below ∈ zws := zsel 16 (by decide +kernel) (by decide +kernel)
theorem ws_Or_groupsBefore : Cond.selects R_Or y_Or_groupsBefore y_Or_groupsBefore ∈ zws := zmem 606 (by decide +kernel) (by decide +kernel)
theorem ws_ES_partial : Cond.selects R_ES y_ES_partial y_ES_partial ∈ zws := zmem 613 (by decide +kernel) (by decide +kernel)
theorem ws_Me_replacedSum : Cond.selects R_Me y_Me_replacedSum y_Me_replacedSum ∈ zws := zmem 617 (by decide +kernel) (by decide +kernel)
theorem ws_Me_sumWith : Cond.selects R_Me y_Me_sumWith y_Me_sumWith ∈ zws := zsel 17 (by decide +kernel) (by decide +kernel)
theorem ws_ES_worth : Cond.selects R_ES y_ES_worth y_ES_worth ∈ zws := zmem 628 (by decide +kernel) (by decide +kernel)
theorem ws_Me_changeSum : Cond.selects R_Me y_Me_changeSum y_Me_changeSum ∈ zws := zmem 632 (by decide +kernel) (by decide +kernel)
theorem ws_Md_clear : Cond.selects R_Md y_Md_clear y_Md_clear ∈ zws := zmem 642 (by decide +kernel) (by decide +kernel)
theorem ws_Md_thrown : Cond.selects R_Md y_Md_thrown y_Md_thrown ∈ zws := zmem 722 (by decide +kernel) (by decide +kernel)
theorem ws_Md_leaf : Cond.selects R_Md y_Md_leaf y_Md_leaf ∈ zws := zmem 726 (by decide +kernel) (by decide +kernel)
theorem ws_Md_split : Cond.selects R_Md y_Md_split y_Md_split ∈ zws := zmem 733 (by decide +kernel) (by decide +kernel)
theorem ws_Md_isColumn : Cond.selects R_Md y_Md_isColumn y_Md_isColumn ∈ zws := zsel 18 (by decide +kernel) (by decide +kernel)
theorem ws_Md_root : Cond.selects R_Md y_Md_root y_Md_root ∈ zws := zmem 741 (by decide +kernel) (by decide +kernel)
theorem ws_Md_weight : Cond.selects R_Md y_Md_weight y_Md_weight ∈ zws := zmem 745 (by decide +kernel) (by decide +kernel)
theorem ws_Md_background : Cond.selects R_Md y_Md_background y_Md_background ∈ zws := zmem 750 (by decide +kernel) (by decide +kernel)
theorem ws_Md_item : Cond.selects R_Md y_Md_item y_Md_item ∈ zws := zmem 754 (by decide +kernel) (by decide +kernel)
theorem ws_Md_group : Cond.selects R_Md y_Md_group y_Md_group ∈ zws := zmem 758 (by decide +kernel) (by decide +kernel)
theorem ws_Md_answer : Cond.selects R_Md y_Md_answer y_Md_answer ∈ zws := zmem 762 (by decide +kernel) (by decide +kernel)
theorem ws_Md_take : Cond.selects R_Md y_Md_take y_Md_take ∈ zws := zsel 19 (by decide +kernel) (by decide +kernel)
theorem ws_Md_answerNow : Cond.selects R_Md y_Md_answerNow y_Md_answerNow ∈ zws := zsel 20 (by decide +kernel) (by decide +kernel)
theorem ws_Md_value : Cond.selects R_Md y_Md_value y_Md_value ∈ zws := zmem 775 (by decide +kernel) (by decide +kernel)
theorem ws_Md_throwsNow : Cond.selects R_Md y_Md_throwsNow y_Md_throwsNow ∈ zws := zsel 21 (by decide +kernel) (by decide +kernel)
theorem ws_Md_sumAll : Cond.selects R_Md y_Md_sumAll y_Md_sumAll ∈ zws := zsel 22 (by decide +kernel) (by decide +kernel)
theorem ws_Md_share : Cond.selects R_Md y_Md_share y_Md_share ∈ zws := zmem 790 (by decide +kernel) (by decide +kernel)
theorem ws_Md_groupBits : Cond.selects R_Md y_Md_groupBits y_Md_groupBits ∈ zws := zsel 23 (by decide +kernel) (by decide +kernel)
theorem ws_Md_shareSum : Cond.selects R_Md y_Md_shareSum y_Md_shareSum ∈ zws := zsel 24 (by decide +kernel) (by decide +kernel)
theorem ws_Md_listParts : Cond.selects R_Md y_Md_listParts y_Md_listParts ∈ zws := zsel 25 (by decide +kernel) (by decide +kernel)
theorem ws_Md_orders : Cond.selects R_Md y_Md_orders y_Md_orders ∈ zws := zsel 26 (by decide +kernel) (by decide +kernel)
theorem ws_Md_layOrder : Cond.selects R_Md y_Md_layOrder y_Md_layOrder ∈ zws := zsel 27 (by decide +kernel) (by decide +kernel)
theorem ws_Md_before : Cond.selects R_Md y_Md_before y_Md_before ∈ zws := zsel 28 (by decide +kernel) (by decide +kernel)
theorem ws_Md_setSum : Cond.selects R_Md y_Md_setSum y_Md_setSum ∈ zws := zsel 29 (by decide +kernel) (by decide +kernel)
theorem ws_Md_both : Cond.selects R_Md y_Md_both y_Md_both ∈ zws := zmem 822 (by decide +kernel) (by decide +kernel)
theorem ws_Md_drawn : Cond.selects R_Md y_Md_drawn y_Md_drawn ∈ zws := zmem 826 (by decide +kernel) (by decide +kernel)
theorem ws_Md_partial : Cond.selects R_Md y_Md_partial y_Md_partial ∈ zws := zmem 831 (by decide +kernel) (by decide +kernel)
theorem ws_Md_worth : Cond.selects R_Md y_Md_worth y_Md_worth ∈ zws := zmem 835 (by decide +kernel) (by decide +kernel)
theorem ws_Md_rank : Cond.selects R_Md y_Md_rank y_Md_rank ∈ zws := zmem 839 (by decide +kernel) (by decide +kernel)
theorem ws_Md_findSizes : Cond.selects R_Md y_Md_findSizes y_Md_findSizes ∈ zws := zsel 30 (by decide +kernel) (by decide +kernel)
theorem ws_Md_bar : Cond.selects R_Md y_Md_bar y_Md_bar ∈ zws := zmem 847 (by decide +kernel) (by decide +kernel)
theorem ws_Md_nearest : Cond.selects R_Md y_Md_nearest y_Md_nearest ∈ zws := zmem 851 (by decide +kernel) (by decide +kernel)
theorem ws_Md_findNearest : Cond.selects R_Md y_Md_findNearest y_Md_findNearest ∈ zws := zsel 31 (by decide +kernel) (by decide +kernel)
theorem ws_Md_hold : Cond.selects R_Md y_Md_hold y_Md_hold ∈ zws := zsel 32 (by decide +kernel) (by decide +kernel)
theorem ws_Md_next : Cond.selects R_Md y_Md_next y_Md_next ∈ zws := zsel 33 (by decide +kernel) (by decide +kernel)
theorem ws_Md_nearestAt : Cond.selects R_Md y_Md_nearestAt y_Md_nearestAt ∈ zws := zmem 867 (by decide +kernel) (by decide +kernel)
theorem wk_Se_33 : Cond.constant R_Se 33 (1000000 : Int32) ∈ zws := zmem 151 (by decide +kernel) (by decide +kernel)
theorem wk_ES_114 : Cond.constantLong R_ES 114 (-1000000000000 : Int64) ∈ zws := zmem 305 (by decide +kernel) (by decide +kernel)
theorem wk_In_265 : Cond.constant R_In 265 (1431655765 : Int32) ∈ zws := zmem 329 (by decide +kernel) (by decide +kernel)
theorem wk_In_266 : Cond.constant R_In 266 (858993459 : Int32) ∈ zws := zmem 330 (by decide +kernel) (by decide +kernel)
theorem wk_In_267 : Cond.constant R_In 267 (252645135 : Int32) ∈ zws := zmem 331 (by decide +kernel) (by decide +kernel)
theorem wk_Or_39 : Cond.constant R_Or 39 (1103515245 : Int32) ∈ zws := zmem 603 (by decide +kernel) (by decide +kernel)
theorem wk_Md_91 : Cond.constantLong R_Md 91 (-1000000000000 : Int64) ∈ zws := zmem 764 (by decide +kernel) (by decide +kernel)
theorem wk_Md_139 : Cond.constant R_Md 139 (1103515245 : Int32) ∈ zws := zmem 828 (by decide +kernel) (by decide +kernel)
theorem wm_ES_9 : Cond.methodLink R_ES 9 Lib.Math.min.name ∈ zws := zmem 23 (by decide +kernel) (by decide +kernel)
theorem wst_min : Cond.static Lib.Math.min.name ∈ zws := zmem 24 (by decide +kernel) (by decide +kernel)
theorem wc_min : Cond.code Lib.Math.min.name Lib.Math.min.code 2 (some .int) ∈ zws := zmem 25 (by decide +kernel) (by decide +kernel)
theorem wm_ES_15 : Cond.methodLink R_ES 15 Lib.Math.max.name ∈ zws := zmem 26 (by decide +kernel) (by decide +kernel)
theorem wst_max : Cond.static Lib.Math.max.name ∈ zws := zmem 27 (by decide +kernel) (by decide +kernel)
theorem wc_max : Cond.code Lib.Math.max.name Lib.Math.max.code 2 (some .int) ∈ zws := zmem 28 (by decide +kernel) (by decide +kernel)
theorem wm_Me_106 : Cond.methodLink R_Me 106 Lib.MathLoose.abs_long.x ∈ zws := zmem 371 (by decide +kernel) (by decide +kernel)
theorem wst_abs_long : Cond.static Lib.MathLoose.abs_long.x ∈ zws := zmem 372 (by decide +kernel) (by decide +kernel)
theorem wc_abs_long : Cond.code Lib.MathLoose.abs_long.x Lib.MathLoose.abs_long.code 2 (some .long) ∈ zws := zmem 373 (by decide +kernel) (by decide +kernel)
theorem wm_Ln_52 : Cond.methodLink R_Ln 52 Lib.Math.max.name ∈ zws := zmem 424 (by decide +kernel) (by decide +kernel)
theorem wm_Se_92 : Cond.methodLink R_Se 92 Lib.Math.abs.name ∈ zws := zmem 433 (by decide +kernel) (by decide +kernel)
theorem wst_abs : Cond.static Lib.Math.abs.name ∈ zws := zmem 434 (by decide +kernel) (by decide +kernel)
theorem wc_abs : Cond.code Lib.Math.abs.name Lib.Math.abs.code 1 (some .int) ∈ zws := zmem 435 (by decide +kernel) (by decide +kernel)
theorem wm_ES_191 : Cond.methodLink R_ES 191 Lib.MathLoose.abs_long.x ∈ zws := zmem 536 (by decide +kernel) (by decide +kernel)
theorem wini_Math : Cond.initialized "java/lang/Math" ∈ zws := zmem 2 (by decide +kernel) (by decide +kernel)
end
section
theorem d_ES_init_0 : decode b_ES_init 0 = .ok (.aload_n 0, 1) := by decide +kernel
theorem d_ES_init_1 : decode b_ES_init 1 = .ok (.invokespecial 1, 3) := by decide +kernel
theorem d_ES_init_4 : decode b_ES_init 4 = .ok (.aload_n 0, 1) := by decide +kernel
theorem d_ES_init_5 : decode b_ES_init 5 = .ok (.iconst (1), 1) := by decide +kernel
theorem d_ES_init_6 : decode b_ES_init 6 = .ok (.bipush (6), 2) := by decide +kernel
theorem d_ES_init_8 : decode b_ES_init 8 = .ok (.iload_n 1, 1) := by decide +kernel
theorem d_ES_init_9 : decode b_ES_init 9 = .ok (.invokestatic 9, 3) := by decide +kernel
theorem d_ES_init_12 : decode b_ES_init 12 = .ok (.invokestatic 15, 3) := by decide +kernel
theorem d_ES_init_15 : decode b_ES_init 15 = .ok (.putfield 18, 3) := by decide +kernel
theorem d_ES_init_18 : decode b_ES_init 18 = .ok (.aload_n 0, 1) := by decide +kernel
theorem d_ES_init_19 : decode b_ES_init 19 = .ok (.new 22, 3) := by decide +kernel
theorem d_ES_init_22 : decode b_ES_init 22 = .ok (.dup, 1) := by decide +kernel
theorem d_ES_init_23 : decode b_ES_init 23 = .ok (.invokespecial 24, 3) := by decide +kernel
theorem d_ES_init_26 : decode b_ES_init 26 = .ok (.putfield 25, 3) := by decide +kernel
theorem d_ES_init_29 : decode b_ES_init 29 = .ok (.aload_n 0, 1) := by decide +kernel
theorem d_ES_init_30 : decode b_ES_init 30 = .ok (.new 29, 3) := by decide +kernel
theorem d_ES_init_33 : decode b_ES_init 33 = .ok (.dup, 1) := by decide +kernel
theorem d_ES_init_34 : decode b_ES_init 34 = .ok (.invokespecial 31, 3) := by decide +kernel
theorem d_ES_init_37 : decode b_ES_init 37 = .ok (.putfield 32, 3) := by decide +kernel
theorem d_ES_init_40 : decode b_ES_init 40 = .ok (.aload_n 0, 1) := by decide +kernel
theorem d_ES_init_41 : decode b_ES_init 41 = .ok (.new 36, 3) := by decide +kernel
theorem d_ES_init_44 : decode b_ES_init 44 = .ok (.dup, 1) := by decide +kernel
theorem d_ES_init_45 : decode b_ES_init 45 = .ok (.aload_n 0, 1) := by decide +kernel
theorem d_ES_init_46 : decode b_ES_init 46 = .ok (.getfield 18, 3) := by decide +kernel
theorem d_ES_init_49 : decode b_ES_init 49 = .ok (.invokespecial 38, 3) := by decide +kernel
theorem d_ES_init_52 : decode b_ES_init 52 = .ok (.putfield 41, 3) := by decide +kernel
theorem d_ES_init_55 : decode b_ES_init 55 = .ok (.aload_n 0, 1) := by decide +kernel
theorem d_ES_init_56 : decode b_ES_init 56 = .ok (.new 45, 3) := by decide +kernel
theorem d_ES_init_59 : decode b_ES_init 59 = .ok (.dup, 1) := by decide +kernel
theorem d_ES_init_60 : decode b_ES_init 60 = .ok (.aload_n 0, 1) := by decide +kernel
theorem d_ES_init_61 : decode b_ES_init 61 = .ok (.getfield 25, 3) := by decide +kernel
theorem d_ES_init_64 : decode b_ES_init 64 = .ok (.aload_n 0, 1) := by decide +kernel
theorem d_ES_init_65 : decode b_ES_init 65 = .ok (.getfield 32, 3) := by decide +kernel
theorem d_ES_init_68 : decode b_ES_init 68 = .ok (.aload_n 0, 1) := by decide +kernel
theorem d_ES_init_69 : decode b_ES_init 69 = .ok (.getfield 41, 3) := by decide +kernel
theorem d_ES_init_72 : decode b_ES_init 72 = .ok (.invokespecial 47, 3) := by decide +kernel
theorem d_ES_init_75 : decode b_ES_init 75 = .ok (.putfield 50, 3) := by decide +kernel
theorem d_ES_init_78 : decode b_ES_init 78 = .ok (.aload_n 0, 1) := by decide +kernel
theorem d_ES_init_79 : decode b_ES_init 79 = .ok (.new 54, 3) := by decide +kernel
theorem d_ES_init_82 : decode b_ES_init 82 = .ok (.dup, 1) := by decide +kernel
theorem d_ES_init_83 : decode b_ES_init 83 = .ok (.aload_n 0, 1) := by decide +kernel
theorem d_ES_init_84 : decode b_ES_init 84 = .ok (.getfield 18, 3) := by decide +kernel
theorem d_ES_init_87 : decode b_ES_init 87 = .ok (.aload_n 0, 1) := by decide +kernel
theorem d_ES_init_88 : decode b_ES_init 88 = .ok (.getfield 25, 3) := by decide +kernel
theorem d_ES_init_91 : decode b_ES_init 91 = .ok (.aload_n 0, 1) := by decide +kernel
theorem d_ES_init_92 : decode b_ES_init 92 = .ok (.getfield 32, 3) := by decide +kernel
theorem d_ES_init_95 : decode b_ES_init 95 = .ok (.invokespecial 56, 3) := by decide +kernel
theorem d_ES_init_98 : decode b_ES_init 98 = .ok (.putfield 59, 3) := by decide +kernel
theorem d_ES_init_101 : decode b_ES_init 101 = .ok (.return_, 1) := by decide +kernel
theorem d_Ln_init_0 : decode b_Ln_init 0 = .ok (.aload_n 0, 1) := by decide +kernel
theorem d_Ln_init_1 : decode b_Ln_init 1 = .ok (.invokespecial 3, 3) := by decide +kernel
theorem d_Ln_init_4 : decode b_Ln_init 4 = .ok (.aload_n 0, 1) := by decide +kernel
theorem d_Ln_init_5 : decode b_Ln_init 5 = .ok (.bipush (30), 2) := by decide +kernel
theorem d_Ln_init_7 : decode b_Ln_init 7 = .ok (.newarray .int, 2) := by decide +kernel
theorem d_Ln_init_9 : decode b_Ln_init 9 = .ok (.putfield 9, 3) := by decide +kernel
theorem d_Ln_init_12 : decode b_Ln_init 12 = .ok (.aload_n 0, 1) := by decide +kernel
theorem d_Ln_init_13 : decode b_Ln_init 13 = .ok (.bipush (30), 2) := by decide +kernel
theorem d_Ln_init_15 : decode b_Ln_init 15 = .ok (.newarray .int, 2) := by decide +kernel
theorem d_Ln_init_17 : decode b_Ln_init 17 = .ok (.putfield 15, 3) := by decide +kernel
theorem d_Ln_init_20 : decode b_Ln_init 20 = .ok (.aload_n 0, 1) := by decide +kernel
theorem d_Ln_init_21 : decode b_Ln_init 21 = .ok (.bipush (30), 2) := by decide +kernel
theorem d_Ln_init_23 : decode b_Ln_init 23 = .ok (.newarray .int, 2) := by decide +kernel
theorem d_Ln_init_25 : decode b_Ln_init 25 = .ok (.putfield 18, 3) := by decide +kernel
theorem d_Ln_init_28 : decode b_Ln_init 28 = .ok (.aload_n 0, 1) := by decide +kernel
theorem d_Ln_init_29 : decode b_Ln_init 29 = .ok (.bipush (30), 2) := by decide +kernel
theorem d_Ln_init_31 : decode b_Ln_init 31 = .ok (.newarray .int, 2) := by decide +kernel
theorem d_Ln_init_33 : decode b_Ln_init 33 = .ok (.putfield 21, 3) := by decide +kernel
theorem d_Ln_init_36 : decode b_Ln_init 36 = .ok (.aload_n 0, 1) := by decide +kernel
theorem d_Ln_init_37 : decode b_Ln_init 37 = .ok (.bipush (30), 2) := by decide +kernel
theorem d_Ln_init_39 : decode b_Ln_init 39 = .ok (.newarray .int, 2) := by decide +kernel
theorem d_Ln_init_41 : decode b_Ln_init 41 = .ok (.putfield 24, 3) := by decide +kernel
theorem d_Ln_init_44 : decode b_Ln_init 44 = .ok (.aload_n 0, 1) := by decide +kernel
theorem d_Ln_init_45 : decode b_Ln_init 45 = .ok (.iconst (4), 1) := by decide +kernel
theorem d_Ln_init_46 : decode b_Ln_init 46 = .ok (.newarray .int, 2) := by decide +kernel
theorem d_Ln_init_48 : decode b_Ln_init 48 = .ok (.putfield 27, 3) := by decide +kernel
theorem d_Ln_init_51 : decode b_Ln_init 51 = .ok (.aload_n 0, 1) := by decide +kernel
theorem d_Ln_init_52 : decode b_Ln_init 52 = .ok (.bipush (6), 2) := by decide +kernel
theorem d_Ln_init_54 : decode b_Ln_init 54 = .ok (.newarray .int, 2) := by decide +kernel
theorem d_Ln_init_56 : decode b_Ln_init 56 = .ok (.putfield 30, 3) := by decide +kernel
theorem d_Ln_init_59 : decode b_Ln_init 59 = .ok (.aload_n 0, 1) := by decide +kernel
theorem d_Ln_init_60 : decode b_Ln_init 60 = .ok (.iconst (0), 1) := by decide +kernel
theorem d_Ln_init_61 : decode b_Ln_init 61 = .ok (.putfield 33, 3) := by decide +kernel
theorem d_Ln_init_64 : decode b_Ln_init 64 = .ok (.aload_n 0, 1) := by decide +kernel
theorem d_Ln_init_65 : decode b_Ln_init 65 = .ok (.iconst (0), 1) := by decide +kernel
theorem d_Ln_init_66 : decode b_Ln_init 66 = .ok (.putfield 37, 3) := by decide +kernel
theorem d_Ln_init_69 : decode b_Ln_init 69 = .ok (.return_, 1) := by decide +kernel
theorem d_Rw_init_0 : decode b_Rw_init 0 = .ok (.aload_n 0, 1) := by decide +kernel
theorem d_Rw_init_1 : decode b_Rw_init 1 = .ok (.invokespecial 3, 3) := by decide +kernel
theorem d_Rw_init_4 : decode b_Rw_init 4 = .ok (.aload_n 0, 1) := by decide +kernel
theorem d_Rw_init_5 : decode b_Rw_init 5 = .ok (.bipush (6), 2) := by decide +kernel
theorem d_Rw_init_7 : decode b_Rw_init 7 = .ok (.newarray .int, 2) := by decide +kernel
theorem d_Rw_init_9 : decode b_Rw_init 9 = .ok (.putfield 9, 3) := by decide +kernel
theorem d_Rw_init_12 : decode b_Rw_init 12 = .ok (.aload_n 0, 1) := by decide +kernel
theorem d_Rw_init_13 : decode b_Rw_init 13 = .ok (.iconst (5), 1) := by decide +kernel
theorem d_Rw_init_14 : decode b_Rw_init 14 = .ok (.bipush (6), 2) := by decide +kernel
theorem d_Rw_init_16 : decode b_Rw_init 16 = .ok (.multianewarray 15 2, 4) := by decide +kernel
theorem d_Rw_init_20 : decode b_Rw_init 20 = .ok (.putfield 17, 3) := by decide +kernel
theorem d_Rw_init_23 : decode b_Rw_init 23 = .ok (.aload_n 0, 1) := by decide +kernel
theorem d_Rw_init_24 : decode b_Rw_init 24 = .ok (.iconst (0), 1) := by decide +kernel
theorem d_Rw_init_25 : decode b_Rw_init 25 = .ok (.putfield 20, 3) := by decide +kernel
theorem d_Rw_init_28 : decode b_Rw_init 28 = .ok (.return_, 1) := by decide +kernel
theorem d_Gr_init_0 : decode b_Gr_init 0 = .ok (.aload_n 0, 1) := by decide +kernel
theorem d_Gr_init_1 : decode b_Gr_init 1 = .ok (.invokespecial 3, 3) := by decide +kernel
theorem d_Gr_init_4 : decode b_Gr_init 4 = .ok (.aload_n 0, 1) := by decide +kernel
theorem d_Gr_init_5 : decode b_Gr_init 5 = .ok (.bipush (6), 2) := by decide +kernel
theorem d_Gr_init_7 : decode b_Gr_init 7 = .ok (.newarray .int, 2) := by decide +kernel
theorem d_Gr_init_9 : decode b_Gr_init 9 = .ok (.putfield 9, 3) := by decide +kernel
theorem d_Gr_init_12 : decode b_Gr_init 12 = .ok (.aload_n 0, 1) := by decide +kernel
theorem d_Gr_init_13 : decode b_Gr_init 13 = .ok (.iload_n 1, 1) := by decide +kernel
theorem d_Gr_init_14 : decode b_Gr_init 14 = .ok (.putfield 15, 3) := by decide +kernel
theorem d_Gr_init_17 : decode b_Gr_init 17 = .ok (.aload_n 0, 1) := by decide +kernel
theorem d_Gr_init_18 : decode b_Gr_init 18 = .ok (.invokevirtual 19, 3) := by decide +kernel
theorem d_Gr_init_21 : decode b_Gr_init 21 = .ok (.return_, 1) := by decide +kernel
theorem d_Gr_standAlone_0 : decode b_Gr_standAlone 0 = .ok (.iconst (0), 1) := by decide +kernel
theorem d_Gr_standAlone_1 : decode b_Gr_standAlone 1 = .ok (.istore_n 1, 1) := by decide +kernel
theorem d_Gr_standAlone_2 : decode b_Gr_standAlone 2 = .ok (.iload_n 1, 1) := by decide +kernel
theorem d_Gr_standAlone_3 : decode b_Gr_standAlone 3 = .ok (.bipush (6), 2) := by decide +kernel
theorem d_Gr_standAlone_5 : decode b_Gr_standAlone 5 = .ok (.if_icmp .ge (16), 3) := by decide +kernel
theorem d_Gr_standAlone_8 : decode b_Gr_standAlone 8 = .ok (.aload_n 0, 1) := by decide +kernel
theorem d_Gr_standAlone_9 : decode b_Gr_standAlone 9 = .ok (.getfield 9, 3) := by decide +kernel
theorem d_Gr_standAlone_12 : decode b_Gr_standAlone 12 = .ok (.iload_n 1, 1) := by decide +kernel
theorem d_Gr_standAlone_13 : decode b_Gr_standAlone 13 = .ok (.iload_n 1, 1) := by decide +kernel
theorem d_Gr_standAlone_14 : decode b_Gr_standAlone 14 = .ok (.iastore, 1) := by decide +kernel
theorem d_Gr_standAlone_15 : decode b_Gr_standAlone 15 = .ok (.iinc 1 (1), 3) := by decide +kernel
theorem d_Gr_standAlone_18 : decode b_Gr_standAlone 18 = .ok (.goto (-16), 3) := by decide +kernel
theorem d_Gr_standAlone_21 : decode b_Gr_standAlone 21 = .ok (.return_, 1) := by decide +kernel
theorem d_Me_init_0 : decode b_Me_init 0 = .ok (.aload_n 0, 1) := by decide +kernel
theorem d_Me_init_1 : decode b_Me_init 1 = .ok (.invokespecial 3, 3) := by decide +kernel
theorem d_Me_init_4 : decode b_Me_init 4 = .ok (.aload_n 0, 1) := by decide +kernel
theorem d_Me_init_5 : decode b_Me_init 5 = .ok (.bipush (6), 2) := by decide +kernel
theorem d_Me_init_7 : decode b_Me_init 7 = .ok (.newarray .int, 2) := by decide +kernel
theorem d_Me_init_9 : decode b_Me_init 9 = .ok (.putfield 9, 3) := by decide +kernel
theorem d_Me_init_12 : decode b_Me_init 12 = .ok (.aload_n 0, 1) := by decide +kernel
theorem d_Me_init_13 : decode b_Me_init 13 = .ok (.bipush (6), 2) := by decide +kernel
theorem d_Me_init_15 : decode b_Me_init 15 = .ok (.newarray .long, 2) := by decide +kernel
theorem d_Me_init_17 : decode b_Me_init 17 = .ok (.putfield 15, 3) := by decide +kernel
theorem d_Me_init_20 : decode b_Me_init 20 = .ok (.aload_n 0, 1) := by decide +kernel
theorem d_Me_init_21 : decode b_Me_init 21 = .ok (.aload_n 1, 1) := by decide +kernel
theorem d_Me_init_22 : decode b_Me_init 22 = .ok (.putfield 19, 3) := by decide +kernel
theorem d_Me_init_25 : decode b_Me_init 25 = .ok (.aload_n 0, 1) := by decide +kernel
theorem d_Me_init_26 : decode b_Me_init 26 = .ok (.aload_n 2, 1) := by decide +kernel
theorem d_Me_init_27 : decode b_Me_init 27 = .ok (.putfield 23, 3) := by decide +kernel
theorem d_Me_init_30 : decode b_Me_init 30 = .ok (.aload_n 0, 1) := by decide +kernel
theorem d_Me_init_31 : decode b_Me_init 31 = .ok (.aload_n 3, 1) := by decide +kernel
theorem d_Me_init_32 : decode b_Me_init 32 = .ok (.putfield 27, 3) := by decide +kernel
theorem d_Me_init_35 : decode b_Me_init 35 = .ok (.aload_n 0, 1) := by decide +kernel
theorem d_Me_init_36 : decode b_Me_init 36 = .ok (.new 31, 3) := by decide +kernel
theorem d_Me_init_39 : decode b_Me_init 39 = .ok (.dup, 1) := by decide +kernel
theorem d_Me_init_40 : decode b_Me_init 40 = .ok (.aload_n 3, 1) := by decide +kernel
theorem d_Me_init_41 : decode b_Me_init 41 = .ok (.invokespecial 33, 3) := by decide +kernel
theorem d_Me_init_44 : decode b_Me_init 44 = .ok (.putfield 36, 3) := by decide +kernel
theorem d_Me_init_47 : decode b_Me_init 47 = .ok (.return_, 1) := by decide +kernel
theorem d_Or_init_0 : decode b_Or_init 0 = .ok (.aload_n 0, 1) := by decide +kernel
theorem d_Or_init_1 : decode b_Or_init 1 = .ok (.invokespecial 3, 3) := by decide +kernel
theorem d_Or_init_4 : decode b_Or_init 4 = .ok (.aload_n 0, 1) := by decide +kernel
theorem d_Or_init_5 : decode b_Or_init 5 = .ok (.bipush (6), 2) := by decide +kernel
theorem d_Or_init_7 : decode b_Or_init 7 = .ok (.newarray .int, 2) := by decide +kernel
theorem d_Or_init_9 : decode b_Or_init 9 = .ok (.putfield 9, 3) := by decide +kernel
theorem d_Or_init_12 : decode b_Or_init 12 = .ok (.aload_n 0, 1) := by decide +kernel
theorem d_Or_init_13 : decode b_Or_init 13 = .ok (.iconst (0), 1) := by decide +kernel
theorem d_Or_init_14 : decode b_Or_init 14 = .ok (.putfield 15, 3) := by decide +kernel
theorem d_Or_init_17 : decode b_Or_init 17 = .ok (.aload_n 0, 1) := by decide +kernel
theorem d_Or_init_18 : decode b_Or_init 18 = .ok (.iconst (0), 1) := by decide +kernel
theorem d_Or_init_19 : decode b_Or_init 19 = .ok (.putfield 19, 3) := by decide +kernel
theorem d_Or_init_22 : decode b_Or_init 22 = .ok (.aload_n 0, 1) := by decide +kernel
theorem d_Or_init_23 : decode b_Or_init 23 = .ok (.aload_n 1, 1) := by decide +kernel
theorem d_Or_init_24 : decode b_Or_init 24 = .ok (.putfield 22, 3) := by decide +kernel
theorem d_Or_init_27 : decode b_Or_init 27 = .ok (.return_, 1) := by decide +kernel
theorem d_Se_init_0 : decode b_Se_init 0 = .ok (.aload_n 0, 1) := by decide +kernel
theorem d_Se_init_1 : decode b_Se_init 1 = .ok (.invokespecial 3, 3) := by decide +kernel
theorem d_Se_init_4 : decode b_Se_init 4 = .ok (.aload_n 0, 1) := by decide +kernel
theorem d_Se_init_5 : decode b_Se_init 5 = .ok (.bipush (6), 2) := by decide +kernel
theorem d_Se_init_7 : decode b_Se_init 7 = .ok (.newarray .boolean, 2) := by decide +kernel
theorem d_Se_init_9 : decode b_Se_init 9 = .ok (.putfield 9, 3) := by decide +kernel
theorem d_Se_init_12 : decode b_Se_init 12 = .ok (.aload_n 0, 1) := by decide +kernel
theorem d_Se_init_13 : decode b_Se_init 13 = .ok (.bipush (6), 2) := by decide +kernel
theorem d_Se_init_15 : decode b_Se_init 15 = .ok (.bipush (6), 2) := by decide +kernel
theorem d_Se_init_17 : decode b_Se_init 17 = .ok (.multianewarray 15 2, 4) := by decide +kernel
theorem d_Se_init_21 : decode b_Se_init 21 = .ok (.putfield 17, 3) := by decide +kernel
theorem d_Se_init_24 : decode b_Se_init 24 = .ok (.aload_n 0, 1) := by decide +kernel
theorem d_Se_init_25 : decode b_Se_init 25 = .ok (.bipush (6), 2) := by decide +kernel
theorem d_Se_init_27 : decode b_Se_init 27 = .ok (.newarray .int, 2) := by decide +kernel
theorem d_Se_init_29 : decode b_Se_init 29 = .ok (.putfield 20, 3) := by decide +kernel
theorem d_Se_init_32 : decode b_Se_init 32 = .ok (.aload_n 0, 1) := by decide +kernel
theorem d_Se_init_33 : decode b_Se_init 33 = .ok (.bipush (6), 2) := by decide +kernel
theorem d_Se_init_35 : decode b_Se_init 35 = .ok (.newarray .int, 2) := by decide +kernel
theorem d_Se_init_37 : decode b_Se_init 37 = .ok (.putfield 24, 3) := by decide +kernel
theorem d_Se_init_40 : decode b_Se_init 40 = .ok (.aload_n 0, 1) := by decide +kernel
theorem d_Se_init_41 : decode b_Se_init 41 = .ok (.bipush (6), 2) := by decide +kernel
theorem d_Se_init_43 : decode b_Se_init 43 = .ok (.newarray .int, 2) := by decide +kernel
theorem d_Se_init_45 : decode b_Se_init 45 = .ok (.putfield 27, 3) := by decide +kernel
theorem d_Se_init_48 : decode b_Se_init 48 = .ok (.aload_n 0, 1) := by decide +kernel
theorem d_Se_init_49 : decode b_Se_init 49 = .ok (.bipush (6), 2) := by decide +kernel
theorem d_Se_init_51 : decode b_Se_init 51 = .ok (.newarray .int, 2) := by decide +kernel
theorem d_Se_init_53 : decode b_Se_init 53 = .ok (.putfield 30, 3) := by decide +kernel
theorem d_Se_init_56 : decode b_Se_init 56 = .ok (.aload_n 0, 1) := by decide +kernel
theorem d_Se_init_57 : decode b_Se_init 57 = .ok (.ldc 33, 2) := by decide +kernel
theorem d_Se_init_59 : decode b_Se_init 59 = .ok (.putfield 34, 3) := by decide +kernel
theorem d_Se_init_62 : decode b_Se_init 62 = .ok (.aload_n 0, 1) := by decide +kernel
theorem d_Se_init_63 : decode b_Se_init 63 = .ok (.iconst (0), 1) := by decide +kernel
theorem d_Se_init_64 : decode b_Se_init 64 = .ok (.putfield 38, 3) := by decide +kernel
theorem d_Se_init_67 : decode b_Se_init 67 = .ok (.aload_n 0, 1) := by decide +kernel
theorem d_Se_init_68 : decode b_Se_init 68 = .ok (.iload_n 1, 1) := by decide +kernel
theorem d_Se_init_69 : decode b_Se_init 69 = .ok (.putfield 41, 3) := by decide +kernel
theorem d_Se_init_72 : decode b_Se_init 72 = .ok (.aload_n 0, 1) := by decide +kernel
theorem d_Se_init_73 : decode b_Se_init 73 = .ok (.aload_n 2, 1) := by decide +kernel
theorem d_Se_init_74 : decode b_Se_init 74 = .ok (.putfield 44, 3) := by decide +kernel
theorem d_Se_init_77 : decode b_Se_init 77 = .ok (.aload_n 0, 1) := by decide +kernel
theorem d_Se_init_78 : decode b_Se_init 78 = .ok (.aload_n 3, 1) := by decide +kernel
theorem d_Se_init_79 : decode b_Se_init 79 = .ok (.putfield 48, 3) := by decide +kernel
theorem d_Se_init_82 : decode b_Se_init 82 = .ok (.return_, 1) := by decide +kernel
theorem d_ES_leaf_0 : decode b_ES_leaf 0 = .ok (.iload_n 1, 1) := by decide +kernel
theorem d_ES_leaf_1 : decode b_ES_leaf 1 = .ok (.sipush (1000), 3) := by decide +kernel
theorem d_ES_leaf_4 : decode b_ES_leaf 4 = .ok (.invokestatic 63, 3) := by decide +kernel
theorem d_ES_leaf_7 : decode b_ES_leaf 7 = .ok (.ifCond .ne (6), 3) := by decide +kernel
theorem d_ES_leaf_10 : decode b_ES_leaf 10 = .ok (.bipush (-2), 2) := by decide +kernel
theorem d_ES_leaf_12 : decode b_ES_leaf 12 = .ok (.ireturn, 1) := by decide +kernel
theorem d_ES_leaf_13 : decode b_ES_leaf 13 = .ok (.aload_n 0, 1) := by decide +kernel
theorem d_ES_leaf_14 : decode b_ES_leaf 14 = .ok (.getfield 25, 3) := by decide +kernel
theorem d_ES_leaf_17 : decode b_ES_leaf 17 = .ok (.iload_n 1, 1) := by decide +kernel
theorem d_ES_leaf_18 : decode b_ES_leaf 18 = .ok (.invokevirtual 67, 3) := by decide +kernel
theorem d_ES_leaf_21 : decode b_ES_leaf 21 = .ok (.ireturn, 1) := by decide +kernel
theorem d_ES_isWithin_0 : decode b_ES_isWithin 0 = .ok (.iload_n 0, 1) := by decide +kernel
theorem d_ES_isWithin_1 : decode b_ES_isWithin 1 = .ok (.iload_n 1, 1) := by decide +kernel
theorem d_ES_isWithin_2 : decode b_ES_isWithin 2 = .ok (.ineg, 1) := by decide +kernel
theorem d_ES_isWithin_3 : decode b_ES_isWithin 3 = .ok (.if_icmp .lt (12), 3) := by decide +kernel
theorem d_ES_isWithin_6 : decode b_ES_isWithin 6 = .ok (.iload_n 0, 1) := by decide +kernel
theorem d_ES_isWithin_7 : decode b_ES_isWithin 7 = .ok (.iload_n 1, 1) := by decide +kernel
theorem d_ES_isWithin_8 : decode b_ES_isWithin 8 = .ok (.if_icmp .gt (7), 3) := by decide +kernel
theorem d_ES_isWithin_11 : decode b_ES_isWithin 11 = .ok (.iconst (1), 1) := by decide +kernel
theorem d_ES_isWithin_12 : decode b_ES_isWithin 12 = .ok (.goto (4), 3) := by decide +kernel
theorem d_ES_isWithin_15 : decode b_ES_isWithin 15 = .ok (.iconst (0), 1) := by decide +kernel
theorem d_ES_isWithin_16 : decode b_ES_isWithin 16 = .ok (.ireturn, 1) := by decide +kernel
theorem d_Ln_addLeaf_0 : decode b_Ln_addLeaf 0 = .ok (.aload_n 0, 1) := by decide +kernel
theorem d_Ln_addLeaf_1 : decode b_Ln_addLeaf 1 = .ok (.iconst (-1), 1) := by decide +kernel
theorem d_Ln_addLeaf_2 : decode b_Ln_addLeaf 2 = .ok (.iload_n 1, 1) := by decide +kernel
theorem d_Ln_addLeaf_3 : decode b_Ln_addLeaf 3 = .ok (.iconst (0), 1) := by decide +kernel
theorem d_Ln_addLeaf_4 : decode b_Ln_addLeaf 4 = .ok (.iconst (0), 1) := by decide +kernel
theorem d_Ln_addLeaf_5 : decode b_Ln_addLeaf 5 = .ok (.invokevirtual 40, 3) := by decide +kernel
theorem d_Ln_addLeaf_8 : decode b_Ln_addLeaf 8 = .ok (.ireturn, 1) := by decide +kernel
theorem d_Ln_addNode_0 : decode b_Ln_addNode 0 = .ok (.aload_n 0, 1) := by decide +kernel
theorem d_Ln_addNode_1 : decode b_Ln_addNode 1 = .ok (.getfield 33, 3) := by decide +kernel
theorem d_Ln_addNode_4 : decode b_Ln_addNode 4 = .ok (.bipush (30), 2) := by decide +kernel
theorem d_Ln_addNode_6 : decode b_Ln_addNode 6 = .ok (.if_icmp .lt (6), 3) := by decide +kernel
theorem d_Ln_addNode_9 : decode b_Ln_addNode 9 = .ok (.bipush (-4), 2) := by decide +kernel
theorem d_Ln_addNode_11 : decode b_Ln_addNode 11 = .ok (.ireturn, 1) := by decide +kernel
theorem d_Ln_addNode_12 : decode b_Ln_addNode 12 = .ok (.aload_n 0, 1) := by decide +kernel
theorem d_Ln_addNode_13 : decode b_Ln_addNode 13 = .ok (.getfield 9, 3) := by decide +kernel
theorem d_Ln_addNode_16 : decode b_Ln_addNode 16 = .ok (.aload_n 0, 1) := by decide +kernel
theorem d_Ln_addNode_17 : decode b_Ln_addNode 17 = .ok (.getfield 33, 3) := by decide +kernel
theorem d_Ln_addNode_20 : decode b_Ln_addNode 20 = .ok (.iload_n 1, 1) := by decide +kernel
theorem d_Ln_addNode_21 : decode b_Ln_addNode 21 = .ok (.iastore, 1) := by decide +kernel
theorem d_Ln_addNode_22 : decode b_Ln_addNode 22 = .ok (.aload_n 0, 1) := by decide +kernel
theorem d_Ln_addNode_23 : decode b_Ln_addNode 23 = .ok (.getfield 15, 3) := by decide +kernel
theorem d_Ln_addNode_26 : decode b_Ln_addNode 26 = .ok (.aload_n 0, 1) := by decide +kernel
theorem d_Ln_addNode_27 : decode b_Ln_addNode 27 = .ok (.getfield 33, 3) := by decide +kernel
theorem d_Ln_addNode_30 : decode b_Ln_addNode 30 = .ok (.iload_n 2, 1) := by decide +kernel
theorem d_Ln_addNode_31 : decode b_Ln_addNode 31 = .ok (.iastore, 1) := by decide +kernel
theorem d_Ln_addNode_32 : decode b_Ln_addNode 32 = .ok (.aload_n 0, 1) := by decide +kernel
theorem d_Ln_addNode_33 : decode b_Ln_addNode 33 = .ok (.getfield 18, 3) := by decide +kernel
theorem d_Ln_addNode_36 : decode b_Ln_addNode 36 = .ok (.aload_n 0, 1) := by decide +kernel
theorem d_Ln_addNode_37 : decode b_Ln_addNode 37 = .ok (.getfield 33, 3) := by decide +kernel
theorem d_Ln_addNode_40 : decode b_Ln_addNode 40 = .ok (.iload_n 3, 1) := by decide +kernel
theorem d_Ln_addNode_41 : decode b_Ln_addNode 41 = .ok (.iastore, 1) := by decide +kernel
theorem d_Ln_addNode_42 : decode b_Ln_addNode 42 = .ok (.aload_n 0, 1) := by decide +kernel
theorem d_Ln_addNode_43 : decode b_Ln_addNode 43 = .ok (.getfield 21, 3) := by decide +kernel
theorem d_Ln_addNode_46 : decode b_Ln_addNode 46 = .ok (.aload_n 0, 1) := by decide +kernel
theorem d_Ln_addNode_47 : decode b_Ln_addNode 47 = .ok (.getfield 33, 3) := by decide +kernel
theorem d_Ln_addNode_50 : decode b_Ln_addNode 50 = .ok (.iload 4, 2) := by decide +kernel
theorem d_Ln_addNode_52 : decode b_Ln_addNode 52 = .ok (.iastore, 1) := by decide +kernel
theorem d_Ln_addNode_53 : decode b_Ln_addNode 53 = .ok (.aload_n 0, 1) := by decide +kernel
theorem d_Ln_addNode_54 : decode b_Ln_addNode 54 = .ok (.dup, 1) := by decide +kernel
theorem d_Ln_addNode_55 : decode b_Ln_addNode 55 = .ok (.getfield 33, 3) := by decide +kernel
theorem d_Ln_addNode_58 : decode b_Ln_addNode 58 = .ok (.iconst (1), 1) := by decide +kernel
theorem d_Ln_addNode_59 : decode b_Ln_addNode 59 = .ok (.iadd, 1) := by decide +kernel
theorem d_Ln_addNode_60 : decode b_Ln_addNode 60 = .ok (.putfield 33, 3) := by decide +kernel
theorem d_Ln_addNode_63 : decode b_Ln_addNode 63 = .ok (.aload_n 0, 1) := by decide +kernel
theorem d_Ln_addNode_64 : decode b_Ln_addNode 64 = .ok (.getfield 33, 3) := by decide +kernel
theorem d_Ln_addNode_67 : decode b_Ln_addNode 67 = .ok (.iconst (1), 1) := by decide +kernel
theorem d_Ln_addNode_68 : decode b_Ln_addNode 68 = .ok (.isub, 1) := by decide +kernel
theorem d_Ln_addNode_69 : decode b_Ln_addNode 69 = .ok (.ireturn, 1) := by decide +kernel
theorem d_ES_split_0 : decode b_ES_split 0 = .ok (.aload_n 0, 1) := by decide +kernel
theorem d_ES_split_1 : decode b_ES_split 1 = .ok (.iload_n 1, 1) := by decide +kernel
theorem d_ES_split_2 : decode b_ES_split 2 = .ok (.invokevirtual 71, 3) := by decide +kernel
theorem d_ES_split_5 : decode b_ES_split 5 = .ok (.ifCond .eq (26), 3) := by decide +kernel
theorem d_ES_split_8 : decode b_ES_split 8 = .ok (.aload_n 0, 1) := by decide +kernel
theorem d_ES_split_9 : decode b_ES_split 9 = .ok (.getfield 25, 3) := by decide +kernel
theorem d_ES_split_12 : decode b_ES_split 12 = .ok (.iload_n 3, 1) := by decide +kernel
theorem d_ES_split_13 : decode b_ES_split 13 = .ok (.invokevirtual 75, 3) := by decide +kernel
theorem d_ES_split_16 : decode b_ES_split 16 = .ok (.ifCond .eq (15), 3) := by decide +kernel
theorem d_ES_split_19 : decode b_ES_split 19 = .ok (.aload_n 0, 1) := by decide +kernel
theorem d_ES_split_20 : decode b_ES_split 20 = .ok (.getfield 25, 3) := by decide +kernel
theorem d_ES_split_23 : decode b_ES_split 23 = .ok (.iload 4, 2) := by decide +kernel
theorem d_ES_split_25 : decode b_ES_split 25 = .ok (.invokevirtual 75, 3) := by decide +kernel
theorem d_ES_split_28 : decode b_ES_split 28 = .ok (.ifCond .ne (5), 3) := by decide +kernel
theorem d_ES_split_31 : decode b_ES_split 31 = .ok (.iconst (-1), 1) := by decide +kernel
theorem d_ES_split_32 : decode b_ES_split 32 = .ok (.ireturn, 1) := by decide +kernel
theorem d_ES_split_33 : decode b_ES_split 33 = .ok (.iload_n 2, 1) := by decide +kernel
theorem d_ES_split_34 : decode b_ES_split 34 = .ok (.bipush (100), 2) := by decide +kernel
theorem d_ES_split_36 : decode b_ES_split 36 = .ok (.invokestatic 63, 3) := by decide +kernel
theorem d_ES_split_39 : decode b_ES_split 39 = .ok (.ifCond .ne (6), 3) := by decide +kernel
theorem d_ES_split_42 : decode b_ES_split 42 = .ok (.bipush (-2), 2) := by decide +kernel
theorem d_ES_split_44 : decode b_ES_split 44 = .ok (.ireturn, 1) := by decide +kernel
theorem d_ES_split_45 : decode b_ES_split 45 = .ok (.aload_n 0, 1) := by decide +kernel
theorem d_ES_split_46 : decode b_ES_split 46 = .ok (.getfield 25, 3) := by decide +kernel
theorem d_ES_split_49 : decode b_ES_split 49 = .ok (.iload_n 1, 1) := by decide +kernel
theorem d_ES_split_50 : decode b_ES_split 50 = .ok (.iload_n 2, 1) := by decide +kernel
theorem d_ES_split_51 : decode b_ES_split 51 = .ok (.iload_n 3, 1) := by decide +kernel
theorem d_ES_split_52 : decode b_ES_split 52 = .ok (.iload 4, 2) := by decide +kernel
theorem d_ES_split_54 : decode b_ES_split 54 = .ok (.invokevirtual 78, 3) := by decide +kernel
theorem d_ES_split_57 : decode b_ES_split 57 = .ok (.ireturn, 1) := by decide +kernel
theorem d_ES_isColumn_0 : decode b_ES_isColumn 0 = .ok (.iload_n 1, 1) := by decide +kernel
theorem d_ES_isColumn_1 : decode b_ES_isColumn 1 = .ok (.ifCond .lt (15), 3) := by decide +kernel
theorem d_ES_isColumn_4 : decode b_ES_isColumn 4 = .ok (.iload_n 1, 1) := by decide +kernel
theorem d_ES_isColumn_5 : decode b_ES_isColumn 5 = .ok (.aload_n 0, 1) := by decide +kernel
theorem d_ES_isColumn_6 : decode b_ES_isColumn 6 = .ok (.getfield 18, 3) := by decide +kernel
theorem d_ES_isColumn_9 : decode b_ES_isColumn 9 = .ok (.if_icmp .ge (7), 3) := by decide +kernel
theorem d_ES_isColumn_12 : decode b_ES_isColumn 12 = .ok (.iconst (1), 1) := by decide +kernel
theorem d_ES_isColumn_13 : decode b_ES_isColumn 13 = .ok (.goto (4), 3) := by decide +kernel
theorem d_ES_isColumn_16 : decode b_ES_isColumn 16 = .ok (.iconst (0), 1) := by decide +kernel
theorem d_ES_isColumn_17 : decode b_ES_isColumn 17 = .ok (.ireturn, 1) := by decide +kernel
theorem d_Ln_hasNode_0 : decode b_Ln_hasNode 0 = .ok (.iload_n 1, 1) := by decide +kernel
theorem d_Ln_hasNode_1 : decode b_Ln_hasNode 1 = .ok (.ifCond .lt (15), 3) := by decide +kernel
theorem d_Ln_hasNode_4 : decode b_Ln_hasNode 4 = .ok (.iload_n 1, 1) := by decide +kernel
theorem d_Ln_hasNode_5 : decode b_Ln_hasNode 5 = .ok (.aload_n 0, 1) := by decide +kernel
theorem d_Ln_hasNode_6 : decode b_Ln_hasNode 6 = .ok (.getfield 33, 3) := by decide +kernel
theorem d_Ln_hasNode_9 : decode b_Ln_hasNode 9 = .ok (.if_icmp .ge (7), 3) := by decide +kernel
theorem d_Ln_hasNode_12 : decode b_Ln_hasNode 12 = .ok (.iconst (1), 1) := by decide +kernel
theorem d_Ln_hasNode_13 : decode b_Ln_hasNode 13 = .ok (.goto (4), 3) := by decide +kernel
theorem d_Ln_hasNode_16 : decode b_Ln_hasNode 16 = .ok (.iconst (0), 1) := by decide +kernel
theorem d_Ln_hasNode_17 : decode b_Ln_hasNode 17 = .ok (.ireturn, 1) := by decide +kernel
theorem d_Ln_addSplit_0 : decode b_Ln_addSplit 0 = .ok (.aload_n 0, 1) := by decide +kernel
theorem d_Ln_addSplit_1 : decode b_Ln_addSplit 1 = .ok (.iload_n 1, 1) := by decide +kernel
theorem d_Ln_addSplit_2 : decode b_Ln_addSplit 2 = .ok (.iload_n 2, 1) := by decide +kernel
theorem d_Ln_addSplit_3 : decode b_Ln_addSplit 3 = .ok (.iload_n 3, 1) := by decide +kernel
theorem d_Ln_addSplit_4 : decode b_Ln_addSplit 4 = .ok (.iload 4, 2) := by decide +kernel
theorem d_Ln_addSplit_6 : decode b_Ln_addSplit 6 = .ok (.invokevirtual 40, 3) := by decide +kernel
theorem d_Ln_addSplit_9 : decode b_Ln_addSplit 9 = .ok (.ireturn, 1) := by decide +kernel
theorem d_ES_root_0 : decode b_ES_root 0 = .ok (.aload_n 0, 1) := by decide +kernel
theorem d_ES_root_1 : decode b_ES_root 1 = .ok (.getfield 25, 3) := by decide +kernel
theorem d_ES_root_4 : decode b_ES_root 4 = .ok (.iload_n 1, 1) := by decide +kernel
theorem d_ES_root_5 : decode b_ES_root 5 = .ok (.invokevirtual 75, 3) := by decide +kernel
theorem d_ES_root_8 : decode b_ES_root 8 = .ok (.ifCond .ne (5), 3) := by decide +kernel
theorem d_ES_root_11 : decode b_ES_root 11 = .ok (.iconst (-1), 1) := by decide +kernel
theorem d_ES_root_12 : decode b_ES_root 12 = .ok (.ireturn, 1) := by decide +kernel
theorem d_ES_root_13 : decode b_ES_root 13 = .ok (.aload_n 0, 1) := by decide +kernel
theorem d_ES_root_14 : decode b_ES_root 14 = .ok (.getfield 25, 3) := by decide +kernel
theorem d_ES_root_17 : decode b_ES_root 17 = .ok (.iload_n 1, 1) := by decide +kernel
theorem d_ES_root_18 : decode b_ES_root 18 = .ok (.invokevirtual 82, 3) := by decide +kernel
theorem d_ES_root_21 : decode b_ES_root 21 = .ok (.ireturn, 1) := by decide +kernel
theorem d_Ln_addRoot_0 : decode b_Ln_addRoot 0 = .ok (.aload_n 0, 1) := by decide +kernel
theorem d_Ln_addRoot_1 : decode b_Ln_addRoot 1 = .ok (.getfield 37, 3) := by decide +kernel
theorem d_Ln_addRoot_4 : decode b_Ln_addRoot 4 = .ok (.iconst (4), 1) := by decide +kernel
theorem d_Ln_addRoot_5 : decode b_Ln_addRoot 5 = .ok (.if_icmp .lt (6), 3) := by decide +kernel
theorem d_Ln_addRoot_8 : decode b_Ln_addRoot 8 = .ok (.bipush (-4), 2) := by decide +kernel
theorem d_Ln_addRoot_10 : decode b_Ln_addRoot 10 = .ok (.ireturn, 1) := by decide +kernel
theorem d_Ln_addRoot_11 : decode b_Ln_addRoot 11 = .ok (.aload_n 0, 1) := by decide +kernel
theorem d_Ln_addRoot_12 : decode b_Ln_addRoot 12 = .ok (.getfield 27, 3) := by decide +kernel
theorem d_Ln_addRoot_15 : decode b_Ln_addRoot 15 = .ok (.aload_n 0, 1) := by decide +kernel
theorem d_Ln_addRoot_16 : decode b_Ln_addRoot 16 = .ok (.getfield 37, 3) := by decide +kernel
theorem d_Ln_addRoot_19 : decode b_Ln_addRoot 19 = .ok (.iload_n 1, 1) := by decide +kernel
theorem d_Ln_addRoot_20 : decode b_Ln_addRoot 20 = .ok (.iastore, 1) := by decide +kernel
theorem d_Ln_addRoot_21 : decode b_Ln_addRoot 21 = .ok (.aload_n 0, 1) := by decide +kernel
theorem d_Ln_addRoot_22 : decode b_Ln_addRoot 22 = .ok (.dup, 1) := by decide +kernel
theorem d_Ln_addRoot_23 : decode b_Ln_addRoot 23 = .ok (.getfield 37, 3) := by decide +kernel
theorem d_Ln_addRoot_26 : decode b_Ln_addRoot 26 = .ok (.iconst (1), 1) := by decide +kernel
theorem d_Ln_addRoot_27 : decode b_Ln_addRoot 27 = .ok (.iadd, 1) := by decide +kernel
theorem d_Ln_addRoot_28 : decode b_Ln_addRoot 28 = .ok (.putfield 37, 3) := by decide +kernel
theorem d_Ln_addRoot_31 : decode b_Ln_addRoot 31 = .ok (.aload_n 0, 1) := by decide +kernel
theorem d_Ln_addRoot_32 : decode b_Ln_addRoot 32 = .ok (.getfield 37, 3) := by decide +kernel
theorem d_Ln_addRoot_35 : decode b_Ln_addRoot 35 = .ok (.ireturn, 1) := by decide +kernel
theorem d_ES_weight_0 : decode b_ES_weight 0 = .ok (.aload_n 0, 1) := by decide +kernel
theorem d_ES_weight_1 : decode b_ES_weight 1 = .ok (.iload_n 1, 1) := by decide +kernel
theorem d_ES_weight_2 : decode b_ES_weight 2 = .ok (.invokevirtual 71, 3) := by decide +kernel
theorem d_ES_weight_5 : decode b_ES_weight 5 = .ok (.ifCond .ne (5), 3) := by decide +kernel
theorem d_ES_weight_8 : decode b_ES_weight 8 = .ok (.iconst (-1), 1) := by decide +kernel
theorem d_ES_weight_9 : decode b_ES_weight 9 = .ok (.ireturn, 1) := by decide +kernel
theorem d_ES_weight_10 : decode b_ES_weight 10 = .ok (.iload_n 2, 1) := by decide +kernel
theorem d_ES_weight_11 : decode b_ES_weight 11 = .ok (.bipush (20), 2) := by decide +kernel
theorem d_ES_weight_13 : decode b_ES_weight 13 = .ok (.invokestatic 63, 3) := by decide +kernel
theorem d_ES_weight_16 : decode b_ES_weight 16 = .ok (.ifCond .ne (6), 3) := by decide +kernel
theorem d_ES_weight_19 : decode b_ES_weight 19 = .ok (.bipush (-2), 2) := by decide +kernel
theorem d_ES_weight_21 : decode b_ES_weight 21 = .ok (.ireturn, 1) := by decide +kernel
theorem d_ES_weight_22 : decode b_ES_weight 22 = .ok (.aload_n 0, 1) := by decide +kernel
theorem d_ES_weight_23 : decode b_ES_weight 23 = .ok (.getfield 25, 3) := by decide +kernel
theorem d_ES_weight_26 : decode b_ES_weight 26 = .ok (.iload_n 1, 1) := by decide +kernel
theorem d_ES_weight_27 : decode b_ES_weight 27 = .ok (.iload_n 2, 1) := by decide +kernel
theorem d_ES_weight_28 : decode b_ES_weight 28 = .ok (.invokevirtual 85, 3) := by decide +kernel
theorem d_ES_weight_31 : decode b_ES_weight 31 = .ok (.iconst (1), 1) := by decide +kernel
theorem d_ES_weight_32 : decode b_ES_weight 32 = .ok (.ireturn, 1) := by decide +kernel
theorem d_Ln_weigh_0 : decode b_Ln_weigh 0 = .ok (.aload_n 0, 1) := by decide +kernel
theorem d_Ln_weigh_1 : decode b_Ln_weigh 1 = .ok (.getfield 30, 3) := by decide +kernel
theorem d_Ln_weigh_4 : decode b_Ln_weigh 4 = .ok (.iload_n 1, 1) := by decide +kernel
theorem d_Ln_weigh_5 : decode b_Ln_weigh 5 = .ok (.iload_n 2, 1) := by decide +kernel
theorem d_Ln_weigh_6 : decode b_Ln_weigh 6 = .ok (.iastore, 1) := by decide +kernel
theorem d_Ln_weigh_7 : decode b_Ln_weigh 7 = .ok (.return_, 1) := by decide +kernel
theorem d_ES_clear_0 : decode b_ES_clear 0 = .ok (.aload_n 0, 1) := by decide +kernel
theorem d_ES_clear_1 : decode b_ES_clear 1 = .ok (.getfield 25, 3) := by decide +kernel
theorem d_ES_clear_4 : decode b_ES_clear 4 = .ok (.invokevirtual 89, 3) := by decide +kernel
theorem d_ES_clear_7 : decode b_ES_clear 7 = .ok (.istore_n 1, 1) := by decide +kernel
theorem d_ES_clear_8 : decode b_ES_clear 8 = .ok (.aload_n 0, 1) := by decide +kernel
theorem d_ES_clear_9 : decode b_ES_clear 9 = .ok (.getfield 32, 3) := by decide +kernel
theorem d_ES_clear_12 : decode b_ES_clear 12 = .ok (.invokevirtual 93, 3) := by decide +kernel
theorem d_ES_clear_15 : decode b_ES_clear 15 = .ok (.aload_n 0, 1) := by decide +kernel
theorem d_ES_clear_16 : decode b_ES_clear 16 = .ok (.getfield 41, 3) := by decide +kernel
theorem d_ES_clear_19 : decode b_ES_clear 19 = .ok (.invokevirtual 95, 3) := by decide +kernel
theorem d_ES_clear_22 : decode b_ES_clear 22 = .ok (.aload_n 0, 1) := by decide +kernel
theorem d_ES_clear_23 : decode b_ES_clear 23 = .ok (.getfield 59, 3) := by decide +kernel
theorem d_ES_clear_26 : decode b_ES_clear 26 = .ok (.invokevirtual 98, 3) := by decide +kernel
theorem d_ES_clear_29 : decode b_ES_clear 29 = .ok (.iload_n 1, 1) := by decide +kernel
theorem d_ES_clear_30 : decode b_ES_clear 30 = .ok (.ireturn, 1) := by decide +kernel
theorem d_Ln_forget_0 : decode b_Ln_forget 0 = .ok (.aload_n 0, 1) := by decide +kernel
theorem d_Ln_forget_1 : decode b_Ln_forget 1 = .ok (.getfield 33, 3) := by decide +kernel
theorem d_Ln_forget_4 : decode b_Ln_forget 4 = .ok (.istore_n 1, 1) := by decide +kernel
theorem d_Ln_forget_5 : decode b_Ln_forget 5 = .ok (.aload_n 0, 1) := by decide +kernel
theorem d_Ln_forget_6 : decode b_Ln_forget 6 = .ok (.iconst (0), 1) := by decide +kernel
theorem d_Ln_forget_7 : decode b_Ln_forget 7 = .ok (.putfield 33, 3) := by decide +kernel
theorem d_Ln_forget_10 : decode b_Ln_forget 10 = .ok (.aload_n 0, 1) := by decide +kernel
theorem d_Ln_forget_11 : decode b_Ln_forget 11 = .ok (.iconst (0), 1) := by decide +kernel
theorem d_Ln_forget_12 : decode b_Ln_forget 12 = .ok (.putfield 37, 3) := by decide +kernel
theorem d_Ln_forget_15 : decode b_Ln_forget 15 = .ok (.iconst (0), 1) := by decide +kernel
theorem d_Ln_forget_16 : decode b_Ln_forget 16 = .ok (.istore_n 2, 1) := by decide +kernel
theorem d_Ln_forget_17 : decode b_Ln_forget 17 = .ok (.iload_n 2, 1) := by decide +kernel
theorem d_Ln_forget_18 : decode b_Ln_forget 18 = .ok (.bipush (6), 2) := by decide +kernel
theorem d_Ln_forget_20 : decode b_Ln_forget 20 = .ok (.if_icmp .ge (16), 3) := by decide +kernel
theorem d_Ln_forget_23 : decode b_Ln_forget 23 = .ok (.aload_n 0, 1) := by decide +kernel
theorem d_Ln_forget_24 : decode b_Ln_forget 24 = .ok (.getfield 30, 3) := by decide +kernel
theorem d_Ln_forget_27 : decode b_Ln_forget 27 = .ok (.iload_n 2, 1) := by decide +kernel
theorem d_Ln_forget_28 : decode b_Ln_forget 28 = .ok (.iconst (0), 1) := by decide +kernel
theorem d_Ln_forget_29 : decode b_Ln_forget 29 = .ok (.iastore, 1) := by decide +kernel
theorem d_Ln_forget_30 : decode b_Ln_forget 30 = .ok (.iinc 2 (1), 3) := by decide +kernel
theorem d_Ln_forget_33 : decode b_Ln_forget 33 = .ok (.goto (-16), 3) := by decide +kernel
theorem d_Ln_forget_36 : decode b_Ln_forget 36 = .ok (.iload_n 1, 1) := by decide +kernel
theorem d_Ln_forget_37 : decode b_Ln_forget 37 = .ok (.ireturn, 1) := by decide +kernel
theorem d_Rw_forget_0 : decode b_Rw_forget 0 = .ok (.aload_n 0, 1) := by decide +kernel
theorem d_Rw_forget_1 : decode b_Rw_forget 1 = .ok (.getfield 9, 3) := by decide +kernel
theorem d_Rw_forget_4 : decode b_Rw_forget 4 = .ok (.invokestatic 24, 3) := by decide +kernel
theorem d_Rw_forget_7 : decode b_Rw_forget 7 = .ok (.aload_n 0, 1) := by decide +kernel
theorem d_Rw_forget_8 : decode b_Rw_forget 8 = .ok (.iconst (0), 1) := by decide +kernel
theorem d_Rw_forget_9 : decode b_Rw_forget 9 = .ok (.putfield 20, 3) := by decide +kernel
theorem d_Rw_forget_12 : decode b_Rw_forget 12 = .ok (.return_, 1) := by decide +kernel
theorem d_Rw_empty_0 : decode b_Rw_empty 0 = .ok (.iconst (0), 1) := by decide +kernel
theorem d_Rw_empty_1 : decode b_Rw_empty 1 = .ok (.istore_n 1, 1) := by decide +kernel
theorem d_Rw_empty_2 : decode b_Rw_empty 2 = .ok (.iload_n 1, 1) := by decide +kernel
theorem d_Rw_empty_3 : decode b_Rw_empty 3 = .ok (.aload_n 0, 1) := by decide +kernel
theorem d_Rw_empty_4 : decode b_Rw_empty 4 = .ok (.arraylength, 1) := by decide +kernel
theorem d_Rw_empty_5 : decode b_Rw_empty 5 = .ok (.if_icmp .ge (13), 3) := by decide +kernel
theorem d_Rw_empty_8 : decode b_Rw_empty 8 = .ok (.aload_n 0, 1) := by decide +kernel
theorem d_Rw_empty_9 : decode b_Rw_empty 9 = .ok (.iload_n 1, 1) := by decide +kernel
theorem d_Rw_empty_10 : decode b_Rw_empty 10 = .ok (.iconst (0), 1) := by decide +kernel
theorem d_Rw_empty_11 : decode b_Rw_empty 11 = .ok (.iastore, 1) := by decide +kernel
theorem d_Rw_empty_12 : decode b_Rw_empty 12 = .ok (.iinc 1 (1), 3) := by decide +kernel
theorem d_Rw_empty_15 : decode b_Rw_empty 15 = .ok (.goto (-13), 3) := by decide +kernel
theorem d_Rw_empty_18 : decode b_Rw_empty 18 = .ok (.return_, 1) := by decide +kernel
theorem d_Se_unbarAll_0 : decode b_Se_unbarAll 0 = .ok (.iconst (0), 1) := by decide +kernel
theorem d_Se_unbarAll_1 : decode b_Se_unbarAll 1 = .ok (.istore_n 1, 1) := by decide +kernel
theorem d_Se_unbarAll_2 : decode b_Se_unbarAll 2 = .ok (.iload_n 1, 1) := by decide +kernel
theorem d_Se_unbarAll_3 : decode b_Se_unbarAll 3 = .ok (.bipush (6), 2) := by decide +kernel
theorem d_Se_unbarAll_5 : decode b_Se_unbarAll 5 = .ok (.if_icmp .ge (16), 3) := by decide +kernel
theorem d_Se_unbarAll_8 : decode b_Se_unbarAll 8 = .ok (.aload_n 0, 1) := by decide +kernel
theorem d_Se_unbarAll_9 : decode b_Se_unbarAll 9 = .ok (.getfield 9, 3) := by decide +kernel
theorem d_Se_unbarAll_12 : decode b_Se_unbarAll 12 = .ok (.iload_n 1, 1) := by decide +kernel
theorem d_Se_unbarAll_13 : decode b_Se_unbarAll 13 = .ok (.iconst (0), 1) := by decide +kernel
theorem d_Se_unbarAll_14 : decode b_Se_unbarAll 14 = .ok (.bastore, 1) := by decide +kernel
theorem d_Se_unbarAll_15 : decode b_Se_unbarAll 15 = .ok (.iinc 1 (1), 3) := by decide +kernel
theorem d_Se_unbarAll_18 : decode b_Se_unbarAll 18 = .ok (.goto (-16), 3) := by decide +kernel
theorem d_Se_unbarAll_21 : decode b_Se_unbarAll 21 = .ok (.return_, 1) := by decide +kernel
theorem d_ES_background_0 : decode b_ES_background 0 = .ok (.aload_n 0, 1) := by decide +kernel
theorem d_ES_background_1 : decode b_ES_background 1 = .ok (.getfield 32, 3) := by decide +kernel
theorem d_ES_background_4 : decode b_ES_background 4 = .ok (.invokevirtual 101, 3) := by decide +kernel
theorem d_ES_background_7 : decode b_ES_background 7 = .ok (.ireturn, 1) := by decide +kernel
theorem d_Rw_addRow_0 : decode b_Rw_addRow 0 = .ok (.aload_n 0, 1) := by decide +kernel
theorem d_Rw_addRow_1 : decode b_Rw_addRow 1 = .ok (.getfield 20, 3) := by decide +kernel
theorem d_Rw_addRow_4 : decode b_Rw_addRow 4 = .ok (.iconst (5), 1) := by decide +kernel
theorem d_Rw_addRow_5 : decode b_Rw_addRow 5 = .ok (.if_icmp .lt (6), 3) := by decide +kernel
theorem d_Rw_addRow_8 : decode b_Rw_addRow 8 = .ok (.bipush (-4), 2) := by decide +kernel
theorem d_Rw_addRow_10 : decode b_Rw_addRow 10 = .ok (.ireturn, 1) := by decide +kernel
theorem d_Rw_addRow_11 : decode b_Rw_addRow 11 = .ok (.aload_n 0, 1) := by decide +kernel
theorem d_Rw_addRow_12 : decode b_Rw_addRow 12 = .ok (.getfield 17, 3) := by decide +kernel
theorem d_Rw_addRow_15 : decode b_Rw_addRow 15 = .ok (.aload_n 0, 1) := by decide +kernel
theorem d_Rw_addRow_16 : decode b_Rw_addRow 16 = .ok (.getfield 20, 3) := by decide +kernel
theorem d_Rw_addRow_19 : decode b_Rw_addRow 19 = .ok (.aaload, 1) := by decide +kernel
theorem d_Rw_addRow_20 : decode b_Rw_addRow 20 = .ok (.invokestatic 24, 3) := by decide +kernel
theorem d_Rw_addRow_23 : decode b_Rw_addRow 23 = .ok (.aload_n 0, 1) := by decide +kernel
theorem d_Rw_addRow_24 : decode b_Rw_addRow 24 = .ok (.dup, 1) := by decide +kernel
theorem d_Rw_addRow_25 : decode b_Rw_addRow 25 = .ok (.getfield 20, 3) := by decide +kernel
theorem d_Rw_addRow_28 : decode b_Rw_addRow 28 = .ok (.iconst (1), 1) := by decide +kernel
theorem d_Rw_addRow_29 : decode b_Rw_addRow 29 = .ok (.iadd, 1) := by decide +kernel
theorem d_Rw_addRow_30 : decode b_Rw_addRow 30 = .ok (.putfield 20, 3) := by decide +kernel
theorem d_Rw_addRow_33 : decode b_Rw_addRow 33 = .ok (.aload_n 0, 1) := by decide +kernel
theorem d_Rw_addRow_34 : decode b_Rw_addRow 34 = .ok (.getfield 20, 3) := by decide +kernel
theorem d_Rw_addRow_37 : decode b_Rw_addRow 37 = .ok (.iconst (1), 1) := by decide +kernel
theorem d_Rw_addRow_38 : decode b_Rw_addRow 38 = .ok (.isub, 1) := by decide +kernel
theorem d_Rw_addRow_39 : decode b_Rw_addRow 39 = .ok (.ireturn, 1) := by decide +kernel
theorem d_ES_item_0 : decode b_ES_item 0 = .ok (.aload_n 0, 1) := by decide +kernel
theorem d_ES_item_1 : decode b_ES_item 1 = .ok (.getfield 32, 3) := by decide +kernel
theorem d_ES_item_4 : decode b_ES_item 4 = .ok (.iload_n 1, 1) := by decide +kernel
theorem d_ES_item_5 : decode b_ES_item 5 = .ok (.invokevirtual 104, 3) := by decide +kernel
theorem d_ES_item_8 : decode b_ES_item 8 = .ok (.ifCond .eq (11), 3) := by decide +kernel
theorem d_ES_item_11 : decode b_ES_item 11 = .ok (.aload_n 0, 1) := by decide +kernel
theorem d_ES_item_12 : decode b_ES_item 12 = .ok (.iload_n 2, 1) := by decide +kernel
theorem d_ES_item_13 : decode b_ES_item 13 = .ok (.invokevirtual 71, 3) := by decide +kernel
theorem d_ES_item_16 : decode b_ES_item 16 = .ok (.ifCond .ne (5), 3) := by decide +kernel
theorem d_ES_item_19 : decode b_ES_item 19 = .ok (.iconst (-1), 1) := by decide +kernel
theorem d_ES_item_20 : decode b_ES_item 20 = .ok (.ireturn, 1) := by decide +kernel
theorem d_ES_item_21 : decode b_ES_item 21 = .ok (.iload_n 3, 1) := by decide +kernel
theorem d_ES_item_22 : decode b_ES_item 22 = .ok (.bipush (100), 2) := by decide +kernel
theorem d_ES_item_24 : decode b_ES_item 24 = .ok (.invokestatic 63, 3) := by decide +kernel
theorem d_ES_item_27 : decode b_ES_item 27 = .ok (.ifCond .ne (6), 3) := by decide +kernel
theorem d_ES_item_30 : decode b_ES_item 30 = .ok (.bipush (-2), 2) := by decide +kernel
theorem d_ES_item_32 : decode b_ES_item 32 = .ok (.ireturn, 1) := by decide +kernel
theorem d_ES_item_33 : decode b_ES_item 33 = .ok (.aload_n 0, 1) := by decide +kernel
theorem d_ES_item_34 : decode b_ES_item 34 = .ok (.getfield 32, 3) := by decide +kernel
theorem d_ES_item_37 : decode b_ES_item 37 = .ok (.iload_n 1, 1) := by decide +kernel
theorem d_ES_item_38 : decode b_ES_item 38 = .ok (.invokevirtual 107, 3) := by decide +kernel
theorem d_ES_item_41 : decode b_ES_item 41 = .ok (.iload_n 2, 1) := by decide +kernel
theorem d_ES_item_42 : decode b_ES_item 42 = .ok (.iload_n 3, 1) := by decide +kernel
theorem d_ES_item_43 : decode b_ES_item 43 = .ok (.iastore, 1) := by decide +kernel
theorem d_ES_item_44 : decode b_ES_item 44 = .ok (.iconst (1), 1) := by decide +kernel
theorem d_ES_item_45 : decode b_ES_item 45 = .ok (.ireturn, 1) := by decide +kernel
theorem d_Rw_has_0 : decode b_Rw_has 0 = .ok (.iload_n 1, 1) := by decide +kernel
theorem d_Rw_has_1 : decode b_Rw_has 1 = .ok (.iconst (-1), 1) := by decide +kernel
theorem d_Rw_has_2 : decode b_Rw_has 2 = .ok (.if_icmp .lt (15), 3) := by decide +kernel
theorem d_Rw_has_5 : decode b_Rw_has 5 = .ok (.iload_n 1, 1) := by decide +kernel
theorem d_Rw_has_6 : decode b_Rw_has 6 = .ok (.aload_n 0, 1) := by decide +kernel
theorem d_Rw_has_7 : decode b_Rw_has 7 = .ok (.getfield 20, 3) := by decide +kernel
theorem d_Rw_has_10 : decode b_Rw_has 10 = .ok (.if_icmp .ge (7), 3) := by decide +kernel
theorem d_Rw_has_13 : decode b_Rw_has 13 = .ok (.iconst (1), 1) := by decide +kernel
theorem d_Rw_has_14 : decode b_Rw_has 14 = .ok (.goto (4), 3) := by decide +kernel
theorem d_Rw_has_17 : decode b_Rw_has 17 = .ok (.iconst (0), 1) := by decide +kernel
theorem d_Rw_has_18 : decode b_Rw_has 18 = .ok (.ireturn, 1) := by decide +kernel
theorem d_Rw_at_0 : decode b_Rw_at 0 = .ok (.iload_n 1, 1) := by decide +kernel
theorem d_Rw_at_1 : decode b_Rw_at 1 = .ok (.ifCond .lt (17), 3) := by decide +kernel
theorem d_Rw_at_4 : decode b_Rw_at 4 = .ok (.iload_n 1, 1) := by decide +kernel
theorem d_Rw_at_5 : decode b_Rw_at 5 = .ok (.iconst (5), 1) := by decide +kernel
theorem d_Rw_at_6 : decode b_Rw_at 6 = .ok (.if_icmp .ge (12), 3) := by decide +kernel
theorem d_Rw_at_9 : decode b_Rw_at 9 = .ok (.aload_n 0, 1) := by decide +kernel
theorem d_Rw_at_10 : decode b_Rw_at 10 = .ok (.getfield 17, 3) := by decide +kernel
theorem d_Rw_at_13 : decode b_Rw_at 13 = .ok (.iload_n 1, 1) := by decide +kernel
theorem d_Rw_at_14 : decode b_Rw_at 14 = .ok (.aaload, 1) := by decide +kernel
theorem d_Rw_at_15 : decode b_Rw_at 15 = .ok (.goto (7), 3) := by decide +kernel
theorem d_Rw_at_18 : decode b_Rw_at 18 = .ok (.aload_n 0, 1) := by decide +kernel
theorem d_Rw_at_19 : decode b_Rw_at 19 = .ok (.getfield 9, 3) := by decide +kernel
theorem d_Rw_at_22 : decode b_Rw_at 22 = .ok (.areturn, 1) := by decide +kernel
theorem d_ES_group_0 : decode b_ES_group 0 = .ok (.aload_n 0, 1) := by decide +kernel
theorem d_ES_group_1 : decode b_ES_group 1 = .ok (.iload_n 1, 1) := by decide +kernel
theorem d_ES_group_2 : decode b_ES_group 2 = .ok (.invokevirtual 71, 3) := by decide +kernel
theorem d_ES_group_5 : decode b_ES_group 5 = .ok (.ifCond .ne (5), 3) := by decide +kernel
theorem d_ES_group_8 : decode b_ES_group 8 = .ok (.iconst (-1), 1) := by decide +kernel
theorem d_ES_group_9 : decode b_ES_group 9 = .ok (.ireturn, 1) := by decide +kernel
theorem d_ES_group_10 : decode b_ES_group 10 = .ok (.aload_n 0, 1) := by decide +kernel
theorem d_ES_group_11 : decode b_ES_group 11 = .ok (.iload_n 2, 1) := by decide +kernel
theorem d_ES_group_12 : decode b_ES_group 12 = .ok (.invokevirtual 71, 3) := by decide +kernel
theorem d_ES_group_15 : decode b_ES_group 15 = .ok (.ifCond .ne (6), 3) := by decide +kernel
theorem d_ES_group_18 : decode b_ES_group 18 = .ok (.bipush (-2), 2) := by decide +kernel
theorem d_ES_group_20 : decode b_ES_group 20 = .ok (.ireturn, 1) := by decide +kernel
theorem d_ES_group_21 : decode b_ES_group 21 = .ok (.aload_n 0, 1) := by decide +kernel
theorem d_ES_group_22 : decode b_ES_group 22 = .ok (.getfield 41, 3) := by decide +kernel
theorem d_ES_group_25 : decode b_ES_group 25 = .ok (.iload_n 1, 1) := by decide +kernel
theorem d_ES_group_26 : decode b_ES_group 26 = .ok (.iload_n 2, 1) := by decide +kernel
theorem d_ES_group_27 : decode b_ES_group 27 = .ok (.invokevirtual 111, 3) := by decide +kernel
theorem d_ES_group_30 : decode b_ES_group 30 = .ok (.ireturn, 1) := by decide +kernel
theorem d_Gr_move_0 : decode b_Gr_move 0 = .ok (.aload_n 0, 1) := by decide +kernel
theorem d_Gr_move_1 : decode b_Gr_move 1 = .ok (.getfield 9, 3) := by decide +kernel
theorem d_Gr_move_4 : decode b_Gr_move 4 = .ok (.iload_n 1, 1) := by decide +kernel
theorem d_Gr_move_5 : decode b_Gr_move 5 = .ok (.iaload, 1) := by decide +kernel
theorem d_Gr_move_6 : decode b_Gr_move 6 = .ok (.istore_n 3, 1) := by decide +kernel
theorem d_Gr_move_7 : decode b_Gr_move 7 = .ok (.aload_n 0, 1) := by decide +kernel
theorem d_Gr_move_8 : decode b_Gr_move 8 = .ok (.getfield 9, 3) := by decide +kernel
theorem d_Gr_move_11 : decode b_Gr_move 11 = .ok (.iload_n 1, 1) := by decide +kernel
theorem d_Gr_move_12 : decode b_Gr_move 12 = .ok (.iload_n 2, 1) := by decide +kernel
theorem d_Gr_move_13 : decode b_Gr_move 13 = .ok (.iastore, 1) := by decide +kernel
theorem d_Gr_move_14 : decode b_Gr_move 14 = .ok (.iload_n 3, 1) := by decide +kernel
theorem d_Gr_move_15 : decode b_Gr_move 15 = .ok (.ireturn, 1) := by decide +kernel
theorem d_ES_answer_0 : decode b_ES_answer 0 = .ok (.aload_n 0, 1) := by decide +kernel
theorem d_ES_answer_1 : decode b_ES_answer 1 = .ok (.getfield 32, 3) := by decide +kernel
theorem d_ES_answer_4 : decode b_ES_answer 4 = .ok (.iload_n 1, 1) := by decide +kernel
theorem d_ES_answer_5 : decode b_ES_answer 5 = .ok (.invokevirtual 104, 3) := by decide +kernel
theorem d_ES_answer_8 : decode b_ES_answer 8 = .ok (.ifCond .ne (7), 3) := by decide +kernel
theorem d_ES_answer_11 : decode b_ES_answer 11 = .ok (.ldc2_w 114, 3) := by decide +kernel
theorem d_ES_answer_14 : decode b_ES_answer 14 = .ok (.lreturn, 1) := by decide +kernel
theorem d_ES_answer_15 : decode b_ES_answer 15 = .ok (.aload_n 0, 1) := by decide +kernel
theorem d_ES_answer_16 : decode b_ES_answer 16 = .ok (.getfield 25, 3) := by decide +kernel
theorem d_ES_answer_19 : decode b_ES_answer 19 = .ok (.aload_n 0, 1) := by decide +kernel
theorem d_ES_answer_20 : decode b_ES_answer 20 = .ok (.getfield 32, 3) := by decide +kernel
theorem d_ES_answer_23 : decode b_ES_answer 23 = .ok (.iload_n 1, 1) := by decide +kernel
theorem d_ES_answer_24 : decode b_ES_answer 24 = .ok (.invokevirtual 107, 3) := by decide +kernel
theorem d_ES_answer_27 : decode b_ES_answer 27 = .ok (.invokevirtual 116, 3) := by decide +kernel
theorem d_ES_answer_30 : decode b_ES_answer 30 = .ok (.i2l, 1) := by decide +kernel
theorem d_ES_answer_31 : decode b_ES_answer 31 = .ok (.lreturn, 1) := by decide +kernel
theorem d_Ln_sumFor_0 : decode b_Ln_sumFor 0 = .ok (.iconst (0), 1) := by decide +kernel
theorem d_Ln_sumFor_1 : decode b_Ln_sumFor 1 = .ok (.istore_n 2, 1) := by decide +kernel
theorem d_Ln_sumFor_2 : decode b_Ln_sumFor 2 = .ok (.iconst (0), 1) := by decide +kernel
theorem d_Ln_sumFor_3 : decode b_Ln_sumFor 3 = .ok (.istore_n 3, 1) := by decide +kernel
theorem d_Ln_sumFor_4 : decode b_Ln_sumFor 4 = .ok (.iload_n 3, 1) := by decide +kernel
theorem d_Ln_sumFor_5 : decode b_Ln_sumFor 5 = .ok (.aload_n 0, 1) := by decide +kernel
theorem d_Ln_sumFor_6 : decode b_Ln_sumFor 6 = .ok (.getfield 37, 3) := by decide +kernel
theorem d_Ln_sumFor_9 : decode b_Ln_sumFor 9 = .ok (.if_icmp .ge (23), 3) := by decide +kernel
theorem d_Ln_sumFor_12 : decode b_Ln_sumFor 12 = .ok (.iload_n 2, 1) := by decide +kernel
theorem d_Ln_sumFor_13 : decode b_Ln_sumFor 13 = .ok (.aload_n 0, 1) := by decide +kernel
theorem d_Ln_sumFor_14 : decode b_Ln_sumFor 14 = .ok (.aload_n 0, 1) := by decide +kernel
theorem d_Ln_sumFor_15 : decode b_Ln_sumFor 15 = .ok (.getfield 27, 3) := by decide +kernel
theorem d_Ln_sumFor_18 : decode b_Ln_sumFor 18 = .ok (.iload_n 3, 1) := by decide +kernel
theorem d_Ln_sumFor_19 : decode b_Ln_sumFor 19 = .ok (.iaload, 1) := by decide +kernel
theorem d_Ln_sumFor_20 : decode b_Ln_sumFor 20 = .ok (.aload_n 1, 1) := by decide +kernel
theorem d_Ln_sumFor_21 : decode b_Ln_sumFor 21 = .ok (.invokevirtual 44, 3) := by decide +kernel
theorem d_Ln_sumFor_24 : decode b_Ln_sumFor 24 = .ok (.iadd, 1) := by decide +kernel
theorem d_Ln_sumFor_25 : decode b_Ln_sumFor 25 = .ok (.istore_n 2, 1) := by decide +kernel
theorem d_Ln_sumFor_26 : decode b_Ln_sumFor 26 = .ok (.iinc 3 (1), 3) := by decide +kernel
theorem d_Ln_sumFor_29 : decode b_Ln_sumFor 29 = .ok (.goto (-25), 3) := by decide +kernel
theorem d_Ln_sumFor_32 : decode b_Ln_sumFor 32 = .ok (.iconst (0), 1) := by decide +kernel
theorem d_Ln_sumFor_33 : decode b_Ln_sumFor 33 = .ok (.istore_n 3, 1) := by decide +kernel
theorem d_Ln_sumFor_34 : decode b_Ln_sumFor 34 = .ok (.iload_n 3, 1) := by decide +kernel
theorem d_Ln_sumFor_35 : decode b_Ln_sumFor 35 = .ok (.bipush (6), 2) := by decide +kernel
theorem d_Ln_sumFor_37 : decode b_Ln_sumFor 37 = .ok (.if_icmp .ge (22), 3) := by decide +kernel
theorem d_Ln_sumFor_40 : decode b_Ln_sumFor 40 = .ok (.iload_n 2, 1) := by decide +kernel
theorem d_Ln_sumFor_41 : decode b_Ln_sumFor 41 = .ok (.aload_n 0, 1) := by decide +kernel
theorem d_Ln_sumFor_42 : decode b_Ln_sumFor 42 = .ok (.getfield 30, 3) := by decide +kernel
theorem d_Ln_sumFor_45 : decode b_Ln_sumFor 45 = .ok (.iload_n 3, 1) := by decide +kernel
theorem d_Ln_sumFor_46 : decode b_Ln_sumFor 46 = .ok (.iaload, 1) := by decide +kernel
theorem d_Ln_sumFor_47 : decode b_Ln_sumFor 47 = .ok (.aload_n 1, 1) := by decide +kernel
theorem d_Ln_sumFor_48 : decode b_Ln_sumFor 48 = .ok (.iload_n 3, 1) := by decide +kernel
theorem d_Ln_sumFor_49 : decode b_Ln_sumFor 49 = .ok (.iaload, 1) := by decide +kernel
theorem d_Ln_sumFor_50 : decode b_Ln_sumFor 50 = .ok (.imul, 1) := by decide +kernel
theorem d_Ln_sumFor_51 : decode b_Ln_sumFor 51 = .ok (.iadd, 1) := by decide +kernel
theorem d_Ln_sumFor_52 : decode b_Ln_sumFor 52 = .ok (.istore_n 2, 1) := by decide +kernel
theorem d_Ln_sumFor_53 : decode b_Ln_sumFor 53 = .ok (.iinc 3 (1), 3) := by decide +kernel
theorem d_Ln_sumFor_56 : decode b_Ln_sumFor 56 = .ok (.goto (-22), 3) := by decide +kernel
theorem d_Ln_sumFor_59 : decode b_Ln_sumFor 59 = .ok (.iload_n 2, 1) := by decide +kernel
theorem d_Ln_sumFor_60 : decode b_Ln_sumFor 60 = .ok (.ireturn, 1) := by decide +kernel
theorem d_Ln_givenBy_0 : decode b_Ln_givenBy 0 = .ok (.iload_n 1, 1) := by decide +kernel
theorem d_Ln_givenBy_1 : decode b_Ln_givenBy 1 = .ok (.istore_n 3, 1) := by decide +kernel
theorem d_Ln_givenBy_2 : decode b_Ln_givenBy 2 = .ok (.iconst (0), 1) := by decide +kernel
theorem d_Ln_givenBy_3 : decode b_Ln_givenBy 3 = .ok (.istore 4, 2) := by decide +kernel
theorem d_Ln_givenBy_5 : decode b_Ln_givenBy 5 = .ok (.iload 4, 2) := by decide +kernel
theorem d_Ln_givenBy_7 : decode b_Ln_givenBy 7 = .ok (.aload_n 0, 1) := by decide +kernel
theorem d_Ln_givenBy_8 : decode b_Ln_givenBy 8 = .ok (.getfield 33, 3) := by decide +kernel
theorem d_Ln_givenBy_11 : decode b_Ln_givenBy 11 = .ok (.if_icmp .ge (64), 3) := by decide +kernel
theorem d_Ln_givenBy_14 : decode b_Ln_givenBy 14 = .ok (.aload_n 0, 1) := by decide +kernel
theorem d_Ln_givenBy_15 : decode b_Ln_givenBy 15 = .ok (.getfield 9, 3) := by decide +kernel
theorem d_Ln_givenBy_18 : decode b_Ln_givenBy 18 = .ok (.iload_n 3, 1) := by decide +kernel
theorem d_Ln_givenBy_19 : decode b_Ln_givenBy 19 = .ok (.iaload, 1) := by decide +kernel
theorem d_Ln_givenBy_20 : decode b_Ln_givenBy 20 = .ok (.iconst (-1), 1) := by decide +kernel
theorem d_Ln_givenBy_21 : decode b_Ln_givenBy 21 = .ok (.if_icmp .eq (54), 3) := by decide +kernel
theorem d_Ln_givenBy_24 : decode b_Ln_givenBy 24 = .ok (.aload_n 2, 1) := by decide +kernel
theorem d_Ln_givenBy_25 : decode b_Ln_givenBy 25 = .ok (.aload_n 0, 1) := by decide +kernel
theorem d_Ln_givenBy_26 : decode b_Ln_givenBy 26 = .ok (.getfield 9, 3) := by decide +kernel
theorem d_Ln_givenBy_29 : decode b_Ln_givenBy 29 = .ok (.iload_n 3, 1) := by decide +kernel
theorem d_Ln_givenBy_30 : decode b_Ln_givenBy 30 = .ok (.iaload, 1) := by decide +kernel
theorem d_Ln_givenBy_31 : decode b_Ln_givenBy 31 = .ok (.iaload, 1) := by decide +kernel
theorem d_Ln_givenBy_32 : decode b_Ln_givenBy 32 = .ok (.aload_n 0, 1) := by decide +kernel
theorem d_Ln_givenBy_33 : decode b_Ln_givenBy 33 = .ok (.getfield 15, 3) := by decide +kernel
theorem d_Ln_givenBy_36 : decode b_Ln_givenBy 36 = .ok (.iload_n 3, 1) := by decide +kernel
theorem d_Ln_givenBy_37 : decode b_Ln_givenBy 37 = .ok (.iaload, 1) := by decide +kernel
theorem d_Ln_givenBy_38 : decode b_Ln_givenBy 38 = .ok (.if_icmp .gt (7), 3) := by decide +kernel
theorem d_Ln_givenBy_41 : decode b_Ln_givenBy 41 = .ok (.iconst (1), 1) := by decide +kernel
theorem d_Ln_givenBy_42 : decode b_Ln_givenBy 42 = .ok (.goto (4), 3) := by decide +kernel
theorem d_Ln_givenBy_45 : decode b_Ln_givenBy 45 = .ok (.iconst (0), 1) := by decide +kernel
theorem d_Ln_givenBy_46 : decode b_Ln_givenBy 46 = .ok (.istore 5, 2) := by decide +kernel
theorem d_Ln_givenBy_48 : decode b_Ln_givenBy 48 = .ok (.iload 5, 2) := by decide +kernel
theorem d_Ln_givenBy_50 : decode b_Ln_givenBy 50 = .ok (.ifCond .eq (12), 3) := by decide +kernel
theorem d_Ln_givenBy_53 : decode b_Ln_givenBy 53 = .ok (.aload_n 0, 1) := by decide +kernel
theorem d_Ln_givenBy_54 : decode b_Ln_givenBy 54 = .ok (.getfield 18, 3) := by decide +kernel
theorem d_Ln_givenBy_57 : decode b_Ln_givenBy 57 = .ok (.iload_n 3, 1) := by decide +kernel
theorem d_Ln_givenBy_58 : decode b_Ln_givenBy 58 = .ok (.iaload, 1) := by decide +kernel
theorem d_Ln_givenBy_59 : decode b_Ln_givenBy 59 = .ok (.goto (9), 3) := by decide +kernel
theorem d_Ln_givenBy_62 : decode b_Ln_givenBy 62 = .ok (.aload_n 0, 1) := by decide +kernel
theorem d_Ln_givenBy_63 : decode b_Ln_givenBy 63 = .ok (.getfield 21, 3) := by decide +kernel
theorem d_Ln_givenBy_66 : decode b_Ln_givenBy 66 = .ok (.iload_n 3, 1) := by decide +kernel
theorem d_Ln_givenBy_67 : decode b_Ln_givenBy 67 = .ok (.iaload, 1) := by decide +kernel
theorem d_Ln_givenBy_68 : decode b_Ln_givenBy 68 = .ok (.istore_n 3, 1) := by decide +kernel
theorem d_Ln_givenBy_69 : decode b_Ln_givenBy 69 = .ok (.iinc 4 (1), 3) := by decide +kernel
theorem d_Ln_givenBy_72 : decode b_Ln_givenBy 72 = .ok (.goto (-67), 3) := by decide +kernel
theorem d_Ln_givenBy_75 : decode b_Ln_givenBy 75 = .ok (.aload_n 0, 1) := by decide +kernel
theorem d_Ln_givenBy_76 : decode b_Ln_givenBy 76 = .ok (.getfield 15, 3) := by decide +kernel
theorem d_Ln_givenBy_79 : decode b_Ln_givenBy 79 = .ok (.iload_n 3, 1) := by decide +kernel
theorem d_Ln_givenBy_80 : decode b_Ln_givenBy 80 = .ok (.iaload, 1) := by decide +kernel
theorem d_Ln_givenBy_81 : decode b_Ln_givenBy 81 = .ok (.ireturn, 1) := by decide +kernel
theorem d_ES_rank_0 : decode b_ES_rank 0 = .ok (.iload_n 1, 1) := by decide +kernel
theorem d_ES_rank_1 : decode b_ES_rank 1 = .ok (.ifCond .lt (14), 3) := by decide +kernel
theorem d_ES_rank_4 : decode b_ES_rank 4 = .ok (.iload_n 1, 1) := by decide +kernel
theorem d_ES_rank_5 : decode b_ES_rank 5 = .ok (.aload_n 0, 1) := by decide +kernel
theorem d_ES_rank_6 : decode b_ES_rank 6 = .ok (.getfield 41, 3) := by decide +kernel
theorem d_ES_rank_9 : decode b_ES_rank 9 = .ok (.invokevirtual 164, 3) := by decide +kernel
theorem d_ES_rank_12 : decode b_ES_rank 12 = .ok (.if_icmp .lt (5), 3) := by decide +kernel
theorem d_ES_rank_15 : decode b_ES_rank 15 = .ok (.iconst (-1), 1) := by decide +kernel
theorem d_ES_rank_16 : decode b_ES_rank 16 = .ok (.ireturn, 1) := by decide +kernel
theorem d_ES_rank_17 : decode b_ES_rank 17 = .ok (.aload_n 0, 1) := by decide +kernel
theorem d_ES_rank_18 : decode b_ES_rank 18 = .ok (.getfield 32, 3) := by decide +kernel
theorem d_ES_rank_21 : decode b_ES_rank 21 = .ok (.invokevirtual 127, 3) := by decide +kernel
theorem d_ES_rank_24 : decode b_ES_rank 24 = .ok (.ifCond .ne (6), 3) := by decide +kernel
theorem d_ES_rank_27 : decode b_ES_rank 27 = .ok (.bipush (-3), 2) := by decide +kernel
theorem d_ES_rank_29 : decode b_ES_rank 29 = .ok (.ireturn, 1) := by decide +kernel
theorem d_ES_rank_30 : decode b_ES_rank 30 = .ok (.aload_n 0, 1) := by decide +kernel
theorem d_ES_rank_31 : decode b_ES_rank 31 = .ok (.getfield 50, 3) := by decide +kernel
theorem d_ES_rank_34 : decode b_ES_rank 34 = .ok (.invokevirtual 165, 3) := by decide +kernel
theorem d_ES_rank_37 : decode b_ES_rank 37 = .ok (.aload_n 0, 1) := by decide +kernel
theorem d_ES_rank_38 : decode b_ES_rank 38 = .ok (.getfield 50, 3) := by decide +kernel
theorem d_ES_rank_41 : decode b_ES_rank 41 = .ok (.iload_n 1, 1) := by decide +kernel
theorem d_ES_rank_42 : decode b_ES_rank 42 = .ok (.invokevirtual 168, 3) := by decide +kernel
end
section
theorem d_ES_rank_45 : decode b_ES_rank 45 = .ok (.ireturn, 1) := by decide +kernel
theorem d_Gr_count_0 : decode b_Gr_count 0 = .ok (.aload_n 0, 1) := by decide +kernel
theorem d_Gr_count_1 : decode b_Gr_count 1 = .ok (.invokevirtual 22, 3) := by decide +kernel
theorem d_Gr_count_4 : decode b_Gr_count 4 = .ok (.invokestatic 26, 3) := by decide +kernel
theorem d_Gr_count_7 : decode b_Gr_count 7 = .ok (.ireturn, 1) := by decide +kernel
theorem d_Gr_there_0 : decode b_Gr_there 0 = .ok (.iconst (0), 1) := by decide +kernel
theorem d_Gr_there_1 : decode b_Gr_there 1 = .ok (.istore_n 1, 1) := by decide +kernel
theorem d_Gr_there_2 : decode b_Gr_there 2 = .ok (.iconst (0), 1) := by decide +kernel
theorem d_Gr_there_3 : decode b_Gr_there 3 = .ok (.istore_n 2, 1) := by decide +kernel
theorem d_Gr_there_4 : decode b_Gr_there 4 = .ok (.iload_n 2, 1) := by decide +kernel
theorem d_Gr_there_5 : decode b_Gr_there 5 = .ok (.aload_n 0, 1) := by decide +kernel
theorem d_Gr_there_6 : decode b_Gr_there 6 = .ok (.getfield 15, 3) := by decide +kernel
theorem d_Gr_there_9 : decode b_Gr_there 9 = .ok (.if_icmp .ge (20), 3) := by decide +kernel
theorem d_Gr_there_12 : decode b_Gr_there 12 = .ok (.iload_n 1, 1) := by decide +kernel
theorem d_Gr_there_13 : decode b_Gr_there 13 = .ok (.iconst (1), 1) := by decide +kernel
theorem d_Gr_there_14 : decode b_Gr_there 14 = .ok (.aload_n 0, 1) := by decide +kernel
theorem d_Gr_there_15 : decode b_Gr_there 15 = .ok (.getfield 9, 3) := by decide +kernel
theorem d_Gr_there_18 : decode b_Gr_there 18 = .ok (.iload_n 2, 1) := by decide +kernel
theorem d_Gr_there_19 : decode b_Gr_there 19 = .ok (.iaload, 1) := by decide +kernel
theorem d_Gr_there_20 : decode b_Gr_there 20 = .ok (.ishl, 1) := by decide +kernel
theorem d_Gr_there_21 : decode b_Gr_there 21 = .ok (.ior, 1) := by decide +kernel
theorem d_Gr_there_22 : decode b_Gr_there 22 = .ok (.istore_n 1, 1) := by decide +kernel
theorem d_Gr_there_23 : decode b_Gr_there 23 = .ok (.iinc 2 (1), 3) := by decide +kernel
theorem d_Gr_there_26 : decode b_Gr_there 26 = .ok (.goto (-22), 3) := by decide +kernel
theorem d_Gr_there_29 : decode b_Gr_there 29 = .ok (.iload_n 1, 1) := by decide +kernel
theorem d_Gr_there_30 : decode b_Gr_there 30 = .ok (.ireturn, 1) := by decide +kernel
theorem d_In_bitCount_0 : decode b_In_bitCount 0 = .ok (.iload_n 0, 1) := by decide +kernel
theorem d_In_bitCount_1 : decode b_In_bitCount 1 = .ok (.iload_n 0, 1) := by decide +kernel
theorem d_In_bitCount_2 : decode b_In_bitCount 2 = .ok (.iconst (1), 1) := by decide +kernel
theorem d_In_bitCount_3 : decode b_In_bitCount 3 = .ok (.iushr, 1) := by decide +kernel
theorem d_In_bitCount_4 : decode b_In_bitCount 4 = .ok (.ldc_w 265, 3) := by decide +kernel
theorem d_In_bitCount_7 : decode b_In_bitCount 7 = .ok (.iand, 1) := by decide +kernel
theorem d_In_bitCount_8 : decode b_In_bitCount 8 = .ok (.isub, 1) := by decide +kernel
theorem d_In_bitCount_9 : decode b_In_bitCount 9 = .ok (.istore_n 0, 1) := by decide +kernel
theorem d_In_bitCount_10 : decode b_In_bitCount 10 = .ok (.iload_n 0, 1) := by decide +kernel
theorem d_In_bitCount_11 : decode b_In_bitCount 11 = .ok (.ldc_w 266, 3) := by decide +kernel
theorem d_In_bitCount_14 : decode b_In_bitCount 14 = .ok (.iand, 1) := by decide +kernel
theorem d_In_bitCount_15 : decode b_In_bitCount 15 = .ok (.iload_n 0, 1) := by decide +kernel
theorem d_In_bitCount_16 : decode b_In_bitCount 16 = .ok (.iconst (2), 1) := by decide +kernel
theorem d_In_bitCount_17 : decode b_In_bitCount 17 = .ok (.iushr, 1) := by decide +kernel
theorem d_In_bitCount_18 : decode b_In_bitCount 18 = .ok (.ldc_w 266, 3) := by decide +kernel
theorem d_In_bitCount_21 : decode b_In_bitCount 21 = .ok (.iand, 1) := by decide +kernel
theorem d_In_bitCount_22 : decode b_In_bitCount 22 = .ok (.iadd, 1) := by decide +kernel
theorem d_In_bitCount_23 : decode b_In_bitCount 23 = .ok (.istore_n 0, 1) := by decide +kernel
theorem d_In_bitCount_24 : decode b_In_bitCount 24 = .ok (.iload_n 0, 1) := by decide +kernel
theorem d_In_bitCount_25 : decode b_In_bitCount 25 = .ok (.iload_n 0, 1) := by decide +kernel
theorem d_In_bitCount_26 : decode b_In_bitCount 26 = .ok (.iconst (4), 1) := by decide +kernel
theorem d_In_bitCount_27 : decode b_In_bitCount 27 = .ok (.iushr, 1) := by decide +kernel
theorem d_In_bitCount_28 : decode b_In_bitCount 28 = .ok (.iadd, 1) := by decide +kernel
theorem d_In_bitCount_29 : decode b_In_bitCount 29 = .ok (.ldc_w 267, 3) := by decide +kernel
theorem d_In_bitCount_32 : decode b_In_bitCount 32 = .ok (.iand, 1) := by decide +kernel
theorem d_In_bitCount_33 : decode b_In_bitCount 33 = .ok (.istore_n 0, 1) := by decide +kernel
theorem d_In_bitCount_34 : decode b_In_bitCount 34 = .ok (.iload_n 0, 1) := by decide +kernel
theorem d_In_bitCount_35 : decode b_In_bitCount 35 = .ok (.iload_n 0, 1) := by decide +kernel
theorem d_In_bitCount_36 : decode b_In_bitCount 36 = .ok (.bipush (8), 2) := by decide +kernel
theorem d_In_bitCount_38 : decode b_In_bitCount 38 = .ok (.iushr, 1) := by decide +kernel
theorem d_In_bitCount_39 : decode b_In_bitCount 39 = .ok (.iadd, 1) := by decide +kernel
theorem d_In_bitCount_40 : decode b_In_bitCount 40 = .ok (.istore_n 0, 1) := by decide +kernel
theorem d_In_bitCount_41 : decode b_In_bitCount 41 = .ok (.iload_n 0, 1) := by decide +kernel
theorem d_In_bitCount_42 : decode b_In_bitCount 42 = .ok (.iload_n 0, 1) := by decide +kernel
theorem d_In_bitCount_43 : decode b_In_bitCount 43 = .ok (.bipush (16), 2) := by decide +kernel
theorem d_In_bitCount_45 : decode b_In_bitCount 45 = .ok (.iushr, 1) := by decide +kernel
theorem d_In_bitCount_46 : decode b_In_bitCount 46 = .ok (.iadd, 1) := by decide +kernel
theorem d_In_bitCount_47 : decode b_In_bitCount 47 = .ok (.istore_n 0, 1) := by decide +kernel
theorem d_In_bitCount_48 : decode b_In_bitCount 48 = .ok (.iload_n 0, 1) := by decide +kernel
theorem d_In_bitCount_49 : decode b_In_bitCount 49 = .ok (.bipush (63), 2) := by decide +kernel
theorem d_In_bitCount_51 : decode b_In_bitCount 51 = .ok (.iand, 1) := by decide +kernel
theorem d_In_bitCount_52 : decode b_In_bitCount 52 = .ok (.ireturn, 1) := by decide +kernel
theorem d_Rw_count_0 : decode b_Rw_count 0 = .ok (.aload_n 0, 1) := by decide +kernel
theorem d_Rw_count_1 : decode b_Rw_count 1 = .ok (.getfield 20, 3) := by decide +kernel
theorem d_Rw_count_4 : decode b_Rw_count 4 = .ok (.ireturn, 1) := by decide +kernel
theorem d_Me_measureShares_0 : decode b_Me_measureShares 0 = .ok (.aload_n 0, 1) := by decide +kernel
theorem d_Me_measureShares_1 : decode b_Me_measureShares 1 = .ok (.getfield 27, 3) := by decide +kernel
theorem d_Me_measureShares_4 : decode b_Me_measureShares 4 = .ok (.invokevirtual 64, 3) := by decide +kernel
theorem d_Me_measureShares_7 : decode b_Me_measureShares 7 = .ok (.istore_n 1, 1) := by decide +kernel
theorem d_Me_measureShares_8 : decode b_Me_measureShares 8 = .ok (.iconst (0), 1) := by decide +kernel
theorem d_Me_measureShares_9 : decode b_Me_measureShares 9 = .ok (.istore_n 2, 1) := by decide +kernel
theorem d_Me_measureShares_10 : decode b_Me_measureShares 10 = .ok (.iload_n 2, 1) := by decide +kernel
theorem d_Me_measureShares_11 : decode b_Me_measureShares 11 = .ok (.bipush (6), 2) := by decide +kernel
theorem d_Me_measureShares_13 : decode b_Me_measureShares 13 = .ok (.if_icmp .ge (47), 3) := by decide +kernel
theorem d_Me_measureShares_16 : decode b_Me_measureShares 16 = .ok (.iload_n 1, 1) := by decide +kernel
theorem d_Me_measureShares_17 : decode b_Me_measureShares 17 = .ok (.iload_n 2, 1) := by decide +kernel
theorem d_Me_measureShares_18 : decode b_Me_measureShares 18 = .ok (.ishr, 1) := by decide +kernel
theorem d_Me_measureShares_19 : decode b_Me_measureShares 19 = .ok (.iconst (1), 1) := by decide +kernel
theorem d_Me_measureShares_20 : decode b_Me_measureShares 20 = .ok (.iand, 1) := by decide +kernel
theorem d_Me_measureShares_21 : decode b_Me_measureShares 21 = .ok (.iconst (1), 1) := by decide +kernel
theorem d_Me_measureShares_22 : decode b_Me_measureShares 22 = .ok (.if_icmp .ne (7), 3) := by decide +kernel
theorem d_Me_measureShares_25 : decode b_Me_measureShares 25 = .ok (.iconst (1), 1) := by decide +kernel
theorem d_Me_measureShares_26 : decode b_Me_measureShares 26 = .ok (.goto (4), 3) := by decide +kernel
theorem d_Me_measureShares_29 : decode b_Me_measureShares 29 = .ok (.iconst (0), 1) := by decide +kernel
theorem d_Me_measureShares_30 : decode b_Me_measureShares 30 = .ok (.istore_n 3, 1) := by decide +kernel
theorem d_Me_measureShares_31 : decode b_Me_measureShares 31 = .ok (.aload_n 0, 1) := by decide +kernel
theorem d_Me_measureShares_32 : decode b_Me_measureShares 32 = .ok (.getfield 15, 3) := by decide +kernel
theorem d_Me_measureShares_35 : decode b_Me_measureShares 35 = .ok (.iload_n 2, 1) := by decide +kernel
theorem d_Me_measureShares_36 : decode b_Me_measureShares 36 = .ok (.iload_n 3, 1) := by decide +kernel
theorem d_Me_measureShares_37 : decode b_Me_measureShares 37 = .ok (.ifCond .eq (15), 3) := by decide +kernel
theorem d_Me_measureShares_40 : decode b_Me_measureShares 40 = .ok (.aload_n 0, 1) := by decide +kernel
theorem d_Me_measureShares_41 : decode b_Me_measureShares 41 = .ok (.iload_n 2, 1) := by decide +kernel
theorem d_Me_measureShares_42 : decode b_Me_measureShares 42 = .ok (.iconst (0), 1) := by decide +kernel
theorem d_Me_measureShares_43 : decode b_Me_measureShares 43 = .ok (.invokevirtual 103, 3) := by decide +kernel
theorem d_Me_measureShares_46 : decode b_Me_measureShares 46 = .ok (.invokestatic 106, 3) := by decide +kernel
theorem d_Me_measureShares_49 : decode b_Me_measureShares 49 = .ok (.goto (4), 3) := by decide +kernel
theorem d_Me_measureShares_52 : decode b_Me_measureShares 52 = .ok (.lconst 0, 1) := by decide +kernel
theorem d_Me_measureShares_53 : decode b_Me_measureShares 53 = .ok (.lastore, 1) := by decide +kernel
theorem d_Me_measureShares_54 : decode b_Me_measureShares 54 = .ok (.iinc 2 (1), 3) := by decide +kernel
theorem d_Me_measureShares_57 : decode b_Me_measureShares 57 = .ok (.goto (-47), 3) := by decide +kernel
theorem d_Me_measureShares_60 : decode b_Me_measureShares 60 = .ok (.return_, 1) := by decide +kernel
theorem d_Me_shareSum_0 : decode b_Me_shareSum 0 = .ok (.aload_n 0, 1) := by decide +kernel
theorem d_Me_shareSum_1 : decode b_Me_shareSum 1 = .ok (.getfield 27, 3) := by decide +kernel
theorem d_Me_shareSum_4 : decode b_Me_shareSum 4 = .ok (.invokevirtual 64, 3) := by decide +kernel
theorem d_Me_shareSum_7 : decode b_Me_shareSum 7 = .ok (.iconst (1), 1) := by decide +kernel
theorem d_Me_shareSum_8 : decode b_Me_shareSum 8 = .ok (.iload_n 1, 1) := by decide +kernel
theorem d_Me_shareSum_9 : decode b_Me_shareSum 9 = .ok (.ishl, 1) := by decide +kernel
theorem d_Me_shareSum_10 : decode b_Me_shareSum 10 = .ok (.iconst (-1), 1) := by decide +kernel
theorem d_Me_shareSum_11 : decode b_Me_shareSum 11 = .ok (.ixor, 1) := by decide +kernel
theorem d_Me_shareSum_12 : decode b_Me_shareSum 12 = .ok (.iand, 1) := by decide +kernel
theorem d_Me_shareSum_13 : decode b_Me_shareSum 13 = .ok (.istore_n 3, 1) := by decide +kernel
theorem d_Me_shareSum_14 : decode b_Me_shareSum 14 = .ok (.aload_n 0, 1) := by decide +kernel
theorem d_Me_shareSum_15 : decode b_Me_shareSum 15 = .ok (.getfield 27, 3) := by decide +kernel
theorem d_Me_shareSum_18 : decode b_Me_shareSum 18 = .ok (.iconst (1), 1) := by decide +kernel
theorem d_Me_shareSum_19 : decode b_Me_shareSum 19 = .ok (.iload_n 1, 1) := by decide +kernel
theorem d_Me_shareSum_20 : decode b_Me_shareSum 20 = .ok (.ishl, 1) := by decide +kernel
theorem d_Me_shareSum_21 : decode b_Me_shareSum 21 = .ok (.invokevirtual 69, 3) := by decide +kernel
theorem d_Me_shareSum_24 : decode b_Me_shareSum 24 = .ok (.istore 4, 2) := by decide +kernel
theorem d_Me_shareSum_26 : decode b_Me_shareSum 26 = .ok (.iload_n 3, 1) := by decide +kernel
theorem d_Me_shareSum_27 : decode b_Me_shareSum 27 = .ok (.invokestatic 73, 3) := by decide +kernel
theorem d_Me_shareSum_30 : decode b_Me_shareSum 30 = .ok (.istore 5, 2) := by decide +kernel
theorem d_Me_shareSum_32 : decode b_Me_shareSum 32 = .ok (.lconst 0, 1) := by decide +kernel
theorem d_Me_shareSum_33 : decode b_Me_shareSum 33 = .ok (.lstore 6, 2) := by decide +kernel
theorem d_Me_shareSum_35 : decode b_Me_shareSum 35 = .ok (.iconst (0), 1) := by decide +kernel
theorem d_Me_shareSum_36 : decode b_Me_shareSum 36 = .ok (.istore 8, 2) := by decide +kernel
theorem d_Me_shareSum_38 : decode b_Me_shareSum 38 = .ok (.iload 8, 2) := by decide +kernel
theorem d_Me_shareSum_40 : decode b_Me_shareSum 40 = .ok (.iload_n 3, 1) := by decide +kernel
theorem d_Me_shareSum_41 : decode b_Me_shareSum 41 = .ok (.if_icmp .gt (59), 3) := by decide +kernel
theorem d_Me_shareSum_44 : decode b_Me_shareSum 44 = .ok (.iload 8, 2) := by decide +kernel
theorem d_Me_shareSum_46 : decode b_Me_shareSum 46 = .ok (.iload_n 3, 1) := by decide +kernel
theorem d_Me_shareSum_47 : decode b_Me_shareSum 47 = .ok (.iconst (-1), 1) := by decide +kernel
theorem d_Me_shareSum_48 : decode b_Me_shareSum 48 = .ok (.ixor, 1) := by decide +kernel
theorem d_Me_shareSum_49 : decode b_Me_shareSum 49 = .ok (.iand, 1) := by decide +kernel
theorem d_Me_shareSum_50 : decode b_Me_shareSum 50 = .ok (.ifCond .ne (44), 3) := by decide +kernel
theorem d_Me_shareSum_53 : decode b_Me_shareSum 53 = .ok (.iload_n 2, 1) := by decide +kernel
theorem d_Me_shareSum_54 : decode b_Me_shareSum 54 = .ok (.iconst (1), 1) := by decide +kernel
theorem d_Me_shareSum_55 : decode b_Me_shareSum 55 = .ok (.if_icmp .ne (7), 3) := by decide +kernel
theorem d_Me_shareSum_58 : decode b_Me_shareSum 58 = .ok (.lconst 1, 1) := by decide +kernel
theorem d_Me_shareSum_59 : decode b_Me_shareSum 59 = .ok (.goto (10), 3) := by decide +kernel
theorem d_Me_shareSum_62 : decode b_Me_shareSum 62 = .ok (.iload 8, 2) := by decide +kernel
theorem d_Me_shareSum_64 : decode b_Me_shareSum 64 = .ok (.iload 5, 2) := by decide +kernel
theorem d_Me_shareSum_66 : decode b_Me_shareSum 66 = .ok (.invokestatic 78, 3) := by decide +kernel
theorem d_Me_shareSum_69 : decode b_Me_shareSum 69 = .ok (.lstore 9, 2) := by decide +kernel
theorem d_Me_shareSum_71 : decode b_Me_shareSum 71 = .ok (.lload 6, 2) := by decide +kernel
theorem d_Me_shareSum_73 : decode b_Me_shareSum 73 = .ok (.lload 9, 2) := by decide +kernel
theorem d_Me_shareSum_75 : decode b_Me_shareSum 75 = .ok (.aload_n 0, 1) := by decide +kernel
theorem d_Me_shareSum_76 : decode b_Me_shareSum 76 = .ok (.aload_n 0, 1) := by decide +kernel
theorem d_Me_shareSum_77 : decode b_Me_shareSum 77 = .ok (.getfield 27, 3) := by decide +kernel
theorem d_Me_shareSum_80 : decode b_Me_shareSum 80 = .ok (.iload 8, 2) := by decide +kernel
theorem d_Me_shareSum_82 : decode b_Me_shareSum 82 = .ok (.invokevirtual 69, 3) := by decide +kernel
theorem d_Me_shareSum_85 : decode b_Me_shareSum 85 = .ok (.iload 4, 2) := by decide +kernel
theorem d_Me_shareSum_87 : decode b_Me_shareSum 87 = .ok (.invokevirtual 82, 3) := by decide +kernel
theorem d_Me_shareSum_90 : decode b_Me_shareSum 90 = .ok (.lmul, 1) := by decide +kernel
theorem d_Me_shareSum_91 : decode b_Me_shareSum 91 = .ok (.ladd, 1) := by decide +kernel
theorem d_Me_shareSum_92 : decode b_Me_shareSum 92 = .ok (.lstore 6, 2) := by decide +kernel
theorem d_Me_shareSum_94 : decode b_Me_shareSum 94 = .ok (.iinc 8 (1), 3) := by decide +kernel
theorem d_Me_shareSum_97 : decode b_Me_shareSum 97 = .ok (.goto (-59), 3) := by decide +kernel
theorem d_Me_shareSum_100 : decode b_Me_shareSum 100 = .ok (.lload 6, 2) := by decide +kernel
theorem d_Me_shareSum_102 : decode b_Me_shareSum 102 = .ok (.lreturn, 1) := by decide +kernel
theorem d_Gr_columnsOf_0 : decode b_Gr_columnsOf 0 = .ok (.iconst (0), 1) := by decide +kernel
theorem d_Gr_columnsOf_1 : decode b_Gr_columnsOf 1 = .ok (.istore_n 2, 1) := by decide +kernel
theorem d_Gr_columnsOf_2 : decode b_Gr_columnsOf 2 = .ok (.iconst (0), 1) := by decide +kernel
theorem d_Gr_columnsOf_3 : decode b_Gr_columnsOf 3 = .ok (.istore_n 3, 1) := by decide +kernel
theorem d_Gr_columnsOf_4 : decode b_Gr_columnsOf 4 = .ok (.iload_n 3, 1) := by decide +kernel
theorem d_Gr_columnsOf_5 : decode b_Gr_columnsOf 5 = .ok (.aload_n 0, 1) := by decide +kernel
theorem d_Gr_columnsOf_6 : decode b_Gr_columnsOf 6 = .ok (.getfield 15, 3) := by decide +kernel
theorem d_Gr_columnsOf_9 : decode b_Gr_columnsOf 9 = .ok (.if_icmp .ge (29), 3) := by decide +kernel
theorem d_Gr_columnsOf_12 : decode b_Gr_columnsOf 12 = .ok (.iload_n 1, 1) := by decide +kernel
theorem d_Gr_columnsOf_13 : decode b_Gr_columnsOf 13 = .ok (.aload_n 0, 1) := by decide +kernel
theorem d_Gr_columnsOf_14 : decode b_Gr_columnsOf 14 = .ok (.getfield 9, 3) := by decide +kernel
theorem d_Gr_columnsOf_17 : decode b_Gr_columnsOf 17 = .ok (.iload_n 3, 1) := by decide +kernel
theorem d_Gr_columnsOf_18 : decode b_Gr_columnsOf 18 = .ok (.iaload, 1) := by decide +kernel
theorem d_Gr_columnsOf_19 : decode b_Gr_columnsOf 19 = .ok (.ishr, 1) := by decide +kernel
theorem d_Gr_columnsOf_20 : decode b_Gr_columnsOf 20 = .ok (.iconst (1), 1) := by decide +kernel
theorem d_Gr_columnsOf_21 : decode b_Gr_columnsOf 21 = .ok (.iand, 1) := by decide +kernel
theorem d_Gr_columnsOf_22 : decode b_Gr_columnsOf 22 = .ok (.iconst (1), 1) := by decide +kernel
theorem d_Gr_columnsOf_23 : decode b_Gr_columnsOf 23 = .ok (.if_icmp .ne (9), 3) := by decide +kernel
theorem d_Gr_columnsOf_26 : decode b_Gr_columnsOf 26 = .ok (.iload_n 2, 1) := by decide +kernel
theorem d_Gr_columnsOf_27 : decode b_Gr_columnsOf 27 = .ok (.iconst (1), 1) := by decide +kernel
theorem d_Gr_columnsOf_28 : decode b_Gr_columnsOf 28 = .ok (.iload_n 3, 1) := by decide +kernel
theorem d_Gr_columnsOf_29 : decode b_Gr_columnsOf 29 = .ok (.ishl, 1) := by decide +kernel
theorem d_Gr_columnsOf_30 : decode b_Gr_columnsOf 30 = .ok (.ior, 1) := by decide +kernel
theorem d_Gr_columnsOf_31 : decode b_Gr_columnsOf 31 = .ok (.istore_n 2, 1) := by decide +kernel
theorem d_Gr_columnsOf_32 : decode b_Gr_columnsOf 32 = .ok (.iinc 3 (1), 3) := by decide +kernel
theorem d_Gr_columnsOf_35 : decode b_Gr_columnsOf 35 = .ok (.goto (-31), 3) := by decide +kernel
theorem d_Gr_columnsOf_38 : decode b_Gr_columnsOf 38 = .ok (.iload_n 2, 1) := by decide +kernel
theorem d_Gr_columnsOf_39 : decode b_Gr_columnsOf 39 = .ok (.ireturn, 1) := by decide +kernel
theorem d_Me_ordersAround_0 : decode b_Me_ordersAround 0 = .ok (.iload_n 0, 1) := by decide +kernel
theorem d_Me_ordersAround_1 : decode b_Me_ordersAround 1 = .ok (.invokestatic 73, 3) := by decide +kernel
theorem d_Me_ordersAround_4 : decode b_Me_ordersAround 4 = .ok (.istore_n 2, 1) := by decide +kernel
theorem d_Me_ordersAround_5 : decode b_Me_ordersAround 5 = .ok (.iload_n 2, 1) := by decide +kernel
theorem d_Me_ordersAround_6 : decode b_Me_ordersAround 6 = .ok (.invokestatic 86, 3) := by decide +kernel
theorem d_Me_ordersAround_9 : decode b_Me_ordersAround 9 = .ok (.iload_n 1, 1) := by decide +kernel
theorem d_Me_ordersAround_10 : decode b_Me_ordersAround 10 = .ok (.iload_n 2, 1) := by decide +kernel
theorem d_Me_ordersAround_11 : decode b_Me_ordersAround 11 = .ok (.isub, 1) := by decide +kernel
theorem d_Me_ordersAround_12 : decode b_Me_ordersAround 12 = .ok (.invokestatic 86, 3) := by decide +kernel
theorem d_Me_ordersAround_15 : decode b_Me_ordersAround 15 = .ok (.lmul, 1) := by decide +kernel
theorem d_Me_ordersAround_16 : decode b_Me_ordersAround 16 = .ok (.lreturn, 1) := by decide +kernel
theorem d_ES_factorial_0 : decode b_ES_factorial 0 = .ok (.lconst 1, 1) := by decide +kernel
theorem d_ES_factorial_1 : decode b_ES_factorial 1 = .ok (.lstore_n 1, 1) := by decide +kernel
theorem d_ES_factorial_2 : decode b_ES_factorial 2 = .ok (.iconst (2), 1) := by decide +kernel
theorem d_ES_factorial_3 : decode b_ES_factorial 3 = .ok (.istore_n 3, 1) := by decide +kernel
theorem d_ES_factorial_4 : decode b_ES_factorial 4 = .ok (.iload_n 3, 1) := by decide +kernel
theorem d_ES_factorial_5 : decode b_ES_factorial 5 = .ok (.iload_n 0, 1) := by decide +kernel
theorem d_ES_factorial_6 : decode b_ES_factorial 6 = .ok (.if_icmp .gt (14), 3) := by decide +kernel
theorem d_ES_factorial_9 : decode b_ES_factorial 9 = .ok (.lload_n 1, 1) := by decide +kernel
theorem d_ES_factorial_10 : decode b_ES_factorial 10 = .ok (.iload_n 3, 1) := by decide +kernel
theorem d_ES_factorial_11 : decode b_ES_factorial 11 = .ok (.i2l, 1) := by decide +kernel
theorem d_ES_factorial_12 : decode b_ES_factorial 12 = .ok (.lmul, 1) := by decide +kernel
theorem d_ES_factorial_13 : decode b_ES_factorial 13 = .ok (.lstore_n 1, 1) := by decide +kernel
theorem d_ES_factorial_14 : decode b_ES_factorial 14 = .ok (.iinc 3 (1), 3) := by decide +kernel
theorem d_ES_factorial_17 : decode b_ES_factorial 17 = .ok (.goto (-13), 3) := by decide +kernel
theorem d_ES_factorial_20 : decode b_ES_factorial 20 = .ok (.lload_n 1, 1) := by decide +kernel
theorem d_ES_factorial_21 : decode b_ES_factorial 21 = .ok (.lreturn, 1) := by decide +kernel
theorem d_Me_brought_0 : decode b_Me_brought 0 = .ok (.aload_n 0, 1) := by decide +kernel
theorem d_Me_brought_1 : decode b_Me_brought 1 = .ok (.iload_n 1, 1) := by decide +kernel
theorem d_Me_brought_2 : decode b_Me_brought 2 = .ok (.iload_n 2, 1) := by decide +kernel
theorem d_Me_brought_3 : decode b_Me_brought 3 = .ok (.ior, 1) := by decide +kernel
theorem d_Me_brought_4 : decode b_Me_brought 4 = .ok (.invokevirtual 60, 3) := by decide +kernel
theorem d_Me_brought_7 : decode b_Me_brought 7 = .ok (.aload_n 0, 1) := by decide +kernel
theorem d_Me_brought_8 : decode b_Me_brought 8 = .ok (.iload_n 1, 1) := by decide +kernel
theorem d_Me_brought_9 : decode b_Me_brought 9 = .ok (.invokevirtual 60, 3) := by decide +kernel
theorem d_Me_brought_12 : decode b_Me_brought 12 = .ok (.lsub, 1) := by decide +kernel
theorem d_Me_brought_13 : decode b_Me_brought 13 = .ok (.lreturn, 1) := by decide +kernel
theorem d_Me_total_0 : decode b_Me_total 0 = .ok (.lconst 0, 1) := by decide +kernel
theorem d_Me_total_1 : decode b_Me_total 1 = .ok (.lstore_n 2, 1) := by decide +kernel
theorem d_Me_total_2 : decode b_Me_total 2 = .ok (.iconst (0), 1) := by decide +kernel
theorem d_Me_total_3 : decode b_Me_total 3 = .ok (.istore 4, 2) := by decide +kernel
theorem d_Me_total_5 : decode b_Me_total 5 = .ok (.iload 4, 2) := by decide +kernel
theorem d_Me_total_7 : decode b_Me_total 7 = .ok (.aload_n 0, 1) := by decide +kernel
theorem d_Me_total_8 : decode b_Me_total 8 = .ok (.getfield 23, 3) := by decide +kernel
theorem d_Me_total_11 : decode b_Me_total 11 = .ok (.invokevirtual 40, 3) := by decide +kernel
theorem d_Me_total_14 : decode b_Me_total 14 = .ok (.if_icmp .ge (46), 3) := by decide +kernel
theorem d_Me_total_17 : decode b_Me_total 17 = .ok (.aload_n 0, 1) := by decide +kernel
theorem d_Me_total_18 : decode b_Me_total 18 = .ok (.iload_n 1, 1) := by decide +kernel
theorem d_Me_total_19 : decode b_Me_total 19 = .ok (.aload_n 0, 1) := by decide +kernel
theorem d_Me_total_20 : decode b_Me_total 20 = .ok (.getfield 23, 3) := by decide +kernel
theorem d_Me_total_23 : decode b_Me_total 23 = .ok (.iconst (-1), 1) := by decide +kernel
theorem d_Me_total_24 : decode b_Me_total 24 = .ok (.invokevirtual 46, 3) := by decide +kernel
theorem d_Me_total_27 : decode b_Me_total 27 = .ok (.aload_n 0, 1) := by decide +kernel
theorem d_Me_total_28 : decode b_Me_total 28 = .ok (.getfield 23, 3) := by decide +kernel
theorem d_Me_total_31 : decode b_Me_total 31 = .ok (.iload 4, 2) := by decide +kernel
theorem d_Me_total_33 : decode b_Me_total 33 = .ok (.invokevirtual 46, 3) := by decide +kernel
theorem d_Me_total_36 : decode b_Me_total 36 = .ok (.invokevirtual 50, 3) := by decide +kernel
theorem d_Me_total_39 : decode b_Me_total 39 = .ok (.lload_n 2, 1) := by decide +kernel
theorem d_Me_total_40 : decode b_Me_total 40 = .ok (.aload_n 0, 1) := by decide +kernel
theorem d_Me_total_41 : decode b_Me_total 41 = .ok (.getfield 19, 3) := by decide +kernel
theorem d_Me_total_44 : decode b_Me_total 44 = .ok (.aload_n 0, 1) := by decide +kernel
theorem d_Me_total_45 : decode b_Me_total 45 = .ok (.getfield 9, 3) := by decide +kernel
theorem d_Me_total_48 : decode b_Me_total 48 = .ok (.invokevirtual 54, 3) := by decide +kernel
theorem d_Me_total_51 : decode b_Me_total 51 = .ok (.i2l, 1) := by decide +kernel
theorem d_Me_total_52 : decode b_Me_total 52 = .ok (.ladd, 1) := by decide +kernel
theorem d_Me_total_53 : decode b_Me_total 53 = .ok (.lstore_n 2, 1) := by decide +kernel
theorem d_Me_total_54 : decode b_Me_total 54 = .ok (.iinc 4 (1), 3) := by decide +kernel
theorem d_Me_total_57 : decode b_Me_total 57 = .ok (.goto (-52), 3) := by decide +kernel
theorem d_Me_total_60 : decode b_Me_total 60 = .ok (.lload_n 2, 1) := by decide +kernel
theorem d_Me_total_61 : decode b_Me_total 61 = .ok (.lreturn, 1) := by decide +kernel
theorem d_Me_mix_0 : decode b_Me_mix 0 = .ok (.iconst (0), 1) := by decide +kernel
theorem d_Me_mix_1 : decode b_Me_mix 1 = .ok (.istore 4, 2) := by decide +kernel
theorem d_Me_mix_3 : decode b_Me_mix 3 = .ok (.iload 4, 2) := by decide +kernel
theorem d_Me_mix_5 : decode b_Me_mix 5 = .ok (.bipush (6), 2) := by decide +kernel
theorem d_Me_mix_7 : decode b_Me_mix 7 = .ok (.if_icmp .ge (37), 3) := by decide +kernel
theorem d_Me_mix_10 : decode b_Me_mix 10 = .ok (.aload_n 0, 1) := by decide +kernel
theorem d_Me_mix_11 : decode b_Me_mix 11 = .ok (.getfield 9, 3) := by decide +kernel
theorem d_Me_mix_14 : decode b_Me_mix 14 = .ok (.iload 4, 2) := by decide +kernel
theorem d_Me_mix_16 : decode b_Me_mix 16 = .ok (.iload_n 1, 1) := by decide +kernel
theorem d_Me_mix_17 : decode b_Me_mix 17 = .ok (.iload 4, 2) := by decide +kernel
theorem d_Me_mix_19 : decode b_Me_mix 19 = .ok (.ishr, 1) := by decide +kernel
theorem d_Me_mix_20 : decode b_Me_mix 20 = .ok (.iconst (1), 1) := by decide +kernel
theorem d_Me_mix_21 : decode b_Me_mix 21 = .ok (.iand, 1) := by decide +kernel
theorem d_Me_mix_22 : decode b_Me_mix 22 = .ok (.iconst (1), 1) := by decide +kernel
theorem d_Me_mix_23 : decode b_Me_mix 23 = .ok (.if_icmp .ne (10), 3) := by decide +kernel
theorem d_Me_mix_26 : decode b_Me_mix 26 = .ok (.aload_n 2, 1) := by decide +kernel
theorem d_Me_mix_27 : decode b_Me_mix 27 = .ok (.iload 4, 2) := by decide +kernel
theorem d_Me_mix_29 : decode b_Me_mix 29 = .ok (.iaload, 1) := by decide +kernel
theorem d_Me_mix_30 : decode b_Me_mix 30 = .ok (.goto (7), 3) := by decide +kernel
theorem d_Me_mix_33 : decode b_Me_mix 33 = .ok (.aload_n 3, 1) := by decide +kernel
theorem d_Me_mix_34 : decode b_Me_mix 34 = .ok (.iload 4, 2) := by decide +kernel
theorem d_Me_mix_36 : decode b_Me_mix 36 = .ok (.iaload, 1) := by decide +kernel
theorem d_Me_mix_37 : decode b_Me_mix 37 = .ok (.iastore, 1) := by decide +kernel
theorem d_Me_mix_38 : decode b_Me_mix 38 = .ok (.iinc 4 (1), 3) := by decide +kernel
theorem d_Me_mix_41 : decode b_Me_mix 41 = .ok (.goto (-38), 3) := by decide +kernel
theorem d_Me_mix_44 : decode b_Me_mix 44 = .ok (.return_, 1) := by decide +kernel
theorem d_Me_groupAtPlace_0 : decode b_Me_groupAtPlace 0 = .ok (.aload_n 0, 1) := by decide +kernel
theorem d_Me_groupAtPlace_1 : decode b_Me_groupAtPlace 1 = .ok (.getfield 27, 3) := by decide +kernel
theorem d_Me_groupAtPlace_4 : decode b_Me_groupAtPlace 4 = .ok (.invokevirtual 64, 3) := by decide +kernel
theorem d_Me_groupAtPlace_7 : decode b_Me_groupAtPlace 7 = .ok (.istore_n 2, 1) := by decide +kernel
theorem d_Me_groupAtPlace_8 : decode b_Me_groupAtPlace 8 = .ok (.iconst (0), 1) := by decide +kernel
theorem d_Me_groupAtPlace_9 : decode b_Me_groupAtPlace 9 = .ok (.istore_n 3, 1) := by decide +kernel
theorem d_Me_groupAtPlace_10 : decode b_Me_groupAtPlace 10 = .ok (.iload_n 3, 1) := by decide +kernel
theorem d_Me_groupAtPlace_11 : decode b_Me_groupAtPlace 11 = .ok (.bipush (6), 2) := by decide +kernel
theorem d_Me_groupAtPlace_13 : decode b_Me_groupAtPlace 13 = .ok (.if_icmp .ge (30), 3) := by decide +kernel
theorem d_Me_groupAtPlace_16 : decode b_Me_groupAtPlace 16 = .ok (.iload_n 2, 1) := by decide +kernel
theorem d_Me_groupAtPlace_17 : decode b_Me_groupAtPlace 17 = .ok (.iload_n 3, 1) := by decide +kernel
theorem d_Me_groupAtPlace_18 : decode b_Me_groupAtPlace 18 = .ok (.ishr, 1) := by decide +kernel
theorem d_Me_groupAtPlace_19 : decode b_Me_groupAtPlace 19 = .ok (.iconst (1), 1) := by decide +kernel
theorem d_Me_groupAtPlace_20 : decode b_Me_groupAtPlace 20 = .ok (.iand, 1) := by decide +kernel
theorem d_Me_groupAtPlace_21 : decode b_Me_groupAtPlace 21 = .ok (.iconst (1), 1) := by decide +kernel
theorem d_Me_groupAtPlace_22 : decode b_Me_groupAtPlace 22 = .ok (.if_icmp .ne (15), 3) := by decide +kernel
theorem d_Me_groupAtPlace_25 : decode b_Me_groupAtPlace 25 = .ok (.aload_n 0, 1) := by decide +kernel
theorem d_Me_groupAtPlace_26 : decode b_Me_groupAtPlace 26 = .ok (.iload_n 3, 1) := by decide +kernel
theorem d_Me_groupAtPlace_27 : decode b_Me_groupAtPlace 27 = .ok (.iload_n 2, 1) := by decide +kernel
theorem d_Me_groupAtPlace_28 : decode b_Me_groupAtPlace 28 = .ok (.invokevirtual 112, 3) := by decide +kernel
theorem d_Me_groupAtPlace_31 : decode b_Me_groupAtPlace 31 = .ok (.iload_n 1, 1) := by decide +kernel
theorem d_Me_groupAtPlace_32 : decode b_Me_groupAtPlace 32 = .ok (.if_icmp .ne (5), 3) := by decide +kernel
theorem d_Me_groupAtPlace_35 : decode b_Me_groupAtPlace 35 = .ok (.iload_n 3, 1) := by decide +kernel
theorem d_Me_groupAtPlace_36 : decode b_Me_groupAtPlace 36 = .ok (.ireturn, 1) := by decide +kernel
theorem d_Me_groupAtPlace_37 : decode b_Me_groupAtPlace 37 = .ok (.iinc 3 (1), 3) := by decide +kernel
theorem d_Me_groupAtPlace_40 : decode b_Me_groupAtPlace 40 = .ok (.goto (-30), 3) := by decide +kernel
theorem d_Me_groupAtPlace_43 : decode b_Me_groupAtPlace 43 = .ok (.iconst (-1), 1) := by decide +kernel
theorem d_Me_groupAtPlace_44 : decode b_Me_groupAtPlace 44 = .ok (.ireturn, 1) := by decide +kernel
theorem d_Me_countAhead_0 : decode b_Me_countAhead 0 = .ok (.iconst (0), 1) := by decide +kernel
theorem d_Me_countAhead_1 : decode b_Me_countAhead 1 = .ok (.istore_n 3, 1) := by decide +kernel
theorem d_Me_countAhead_2 : decode b_Me_countAhead 2 = .ok (.iconst (0), 1) := by decide +kernel
theorem d_Me_countAhead_3 : decode b_Me_countAhead 3 = .ok (.istore 4, 2) := by decide +kernel
theorem d_Me_countAhead_5 : decode b_Me_countAhead 5 = .ok (.iload 4, 2) := by decide +kernel
theorem d_Me_countAhead_7 : decode b_Me_countAhead 7 = .ok (.bipush (6), 2) := by decide +kernel
theorem d_Me_countAhead_9 : decode b_Me_countAhead 9 = .ok (.if_icmp .ge (86), 3) := by decide +kernel
theorem d_Me_countAhead_12 : decode b_Me_countAhead 12 = .ok (.aload_n 0, 1) := by decide +kernel
theorem d_Me_countAhead_13 : decode b_Me_countAhead 13 = .ok (.getfield 15, 3) := by decide +kernel
theorem d_Me_countAhead_16 : decode b_Me_countAhead 16 = .ok (.iload 4, 2) := by decide +kernel
theorem d_Me_countAhead_18 : decode b_Me_countAhead 18 = .ok (.laload, 1) := by decide +kernel
theorem d_Me_countAhead_19 : decode b_Me_countAhead 19 = .ok (.aload_n 0, 1) := by decide +kernel
theorem d_Me_countAhead_20 : decode b_Me_countAhead 20 = .ok (.getfield 15, 3) := by decide +kernel
theorem d_Me_countAhead_23 : decode b_Me_countAhead 23 = .ok (.iload_n 1, 1) := by decide +kernel
theorem d_Me_countAhead_24 : decode b_Me_countAhead 24 = .ok (.laload, 1) := by decide +kernel
theorem d_Me_countAhead_25 : decode b_Me_countAhead 25 = .ok (.lcmp, 1) := by decide +kernel
theorem d_Me_countAhead_26 : decode b_Me_countAhead 26 = .ok (.ifCond .ne (13), 3) := by decide +kernel
theorem d_Me_countAhead_29 : decode b_Me_countAhead 29 = .ok (.iload 4, 2) := by decide +kernel
theorem d_Me_countAhead_31 : decode b_Me_countAhead 31 = .ok (.iload_n 1, 1) := by decide +kernel
theorem d_Me_countAhead_32 : decode b_Me_countAhead 32 = .ok (.if_icmp .ge (7), 3) := by decide +kernel
theorem d_Me_countAhead_35 : decode b_Me_countAhead 35 = .ok (.iconst (1), 1) := by decide +kernel
theorem d_Me_countAhead_36 : decode b_Me_countAhead 36 = .ok (.goto (4), 3) := by decide +kernel
theorem d_Me_countAhead_39 : decode b_Me_countAhead 39 = .ok (.iconst (0), 1) := by decide +kernel
theorem d_Me_countAhead_40 : decode b_Me_countAhead 40 = .ok (.istore 5, 2) := by decide +kernel
theorem d_Me_countAhead_42 : decode b_Me_countAhead 42 = .ok (.aload_n 0, 1) := by decide +kernel
theorem d_Me_countAhead_43 : decode b_Me_countAhead 43 = .ok (.getfield 15, 3) := by decide +kernel
theorem d_Me_countAhead_46 : decode b_Me_countAhead 46 = .ok (.iload 4, 2) := by decide +kernel
theorem d_Me_countAhead_48 : decode b_Me_countAhead 48 = .ok (.laload, 1) := by decide +kernel
theorem d_Me_countAhead_49 : decode b_Me_countAhead 49 = .ok (.aload_n 0, 1) := by decide +kernel
theorem d_Me_countAhead_50 : decode b_Me_countAhead 50 = .ok (.getfield 15, 3) := by decide +kernel
theorem d_Me_countAhead_53 : decode b_Me_countAhead 53 = .ok (.iload_n 1, 1) := by decide +kernel
theorem d_Me_countAhead_54 : decode b_Me_countAhead 54 = .ok (.laload, 1) := by decide +kernel
theorem d_Me_countAhead_55 : decode b_Me_countAhead 55 = .ok (.lcmp, 1) := by decide +kernel
theorem d_Me_countAhead_56 : decode b_Me_countAhead 56 = .ok (.ifCond .gt (8), 3) := by decide +kernel
theorem d_Me_countAhead_59 : decode b_Me_countAhead 59 = .ok (.iload 5, 2) := by decide +kernel
theorem d_Me_countAhead_61 : decode b_Me_countAhead 61 = .ok (.ifCond .eq (7), 3) := by decide +kernel
theorem d_Me_countAhead_64 : decode b_Me_countAhead 64 = .ok (.iconst (1), 1) := by decide +kernel
theorem d_Me_countAhead_65 : decode b_Me_countAhead 65 = .ok (.goto (4), 3) := by decide +kernel
theorem d_Me_countAhead_68 : decode b_Me_countAhead 68 = .ok (.iconst (0), 1) := by decide +kernel
theorem d_Me_countAhead_69 : decode b_Me_countAhead 69 = .ok (.istore 6, 2) := by decide +kernel
theorem d_Me_countAhead_71 : decode b_Me_countAhead 71 = .ok (.iload_n 2, 1) := by decide +kernel
theorem d_Me_countAhead_72 : decode b_Me_countAhead 72 = .ok (.iload 4, 2) := by decide +kernel
theorem d_Me_countAhead_74 : decode b_Me_countAhead 74 = .ok (.ishr, 1) := by decide +kernel
theorem d_Me_countAhead_75 : decode b_Me_countAhead 75 = .ok (.iconst (1), 1) := by decide +kernel
theorem d_Me_countAhead_76 : decode b_Me_countAhead 76 = .ok (.iand, 1) := by decide +kernel
theorem d_Me_countAhead_77 : decode b_Me_countAhead 77 = .ok (.iconst (1), 1) := by decide +kernel
theorem d_Me_countAhead_78 : decode b_Me_countAhead 78 = .ok (.if_icmp .ne (11), 3) := by decide +kernel
theorem d_Me_countAhead_81 : decode b_Me_countAhead 81 = .ok (.iload 6, 2) := by decide +kernel
theorem d_Me_countAhead_83 : decode b_Me_countAhead 83 = .ok (.ifCond .eq (6), 3) := by decide +kernel
theorem d_Me_countAhead_86 : decode b_Me_countAhead 86 = .ok (.iinc 3 (1), 3) := by decide +kernel
theorem d_Me_countAhead_89 : decode b_Me_countAhead 89 = .ok (.iinc 4 (1), 3) := by decide +kernel
theorem d_Me_countAhead_92 : decode b_Me_countAhead 92 = .ok (.goto (-87), 3) := by decide +kernel
theorem d_Me_countAhead_95 : decode b_Me_countAhead 95 = .ok (.iload_n 3, 1) := by decide +kernel
theorem d_Me_countAhead_96 : decode b_Me_countAhead 96 = .ok (.ireturn, 1) := by decide +kernel
theorem d_ES_bar_0 : decode b_ES_bar 0 = .ok (.aload_n 0, 1) := by decide +kernel
theorem d_ES_bar_1 : decode b_ES_bar 1 = .ok (.iload_n 1, 1) := by decide +kernel
theorem d_ES_bar_2 : decode b_ES_bar 2 = .ok (.invokevirtual 71, 3) := by decide +kernel
theorem d_ES_bar_5 : decode b_ES_bar 5 = .ok (.ifCond .ne (5), 3) := by decide +kernel
theorem d_ES_bar_8 : decode b_ES_bar 8 = .ok (.iconst (-1), 1) := by decide +kernel
theorem d_ES_bar_9 : decode b_ES_bar 9 = .ok (.ireturn, 1) := by decide +kernel
theorem d_ES_bar_10 : decode b_ES_bar 10 = .ok (.aload_n 0, 1) := by decide +kernel
theorem d_ES_bar_11 : decode b_ES_bar 11 = .ok (.getfield 59, 3) := by decide +kernel
theorem d_ES_bar_14 : decode b_ES_bar 14 = .ok (.iload_n 1, 1) := by decide +kernel
theorem d_ES_bar_15 : decode b_ES_bar 15 = .ok (.iload_n 2, 1) := by decide +kernel
theorem d_ES_bar_16 : decode b_ES_bar 16 = .ok (.invokevirtual 171, 3) := by decide +kernel
theorem d_ES_bar_19 : decode b_ES_bar 19 = .ok (.ifCond .eq (7), 3) := by decide +kernel
theorem d_ES_bar_22 : decode b_ES_bar 22 = .ok (.iconst (1), 1) := by decide +kernel
theorem d_ES_bar_23 : decode b_ES_bar 23 = .ok (.goto (4), 3) := by decide +kernel
theorem d_ES_bar_26 : decode b_ES_bar 26 = .ok (.iconst (0), 1) := by decide +kernel
theorem d_ES_bar_27 : decode b_ES_bar 27 = .ok (.ireturn, 1) := by decide +kernel
theorem d_Se_setBarred_0 : decode b_Se_setBarred 0 = .ok (.aload_n 0, 1) := by decide +kernel
theorem d_Se_setBarred_1 : decode b_Se_setBarred 1 = .ok (.getfield 9, 3) := by decide +kernel
theorem d_Se_setBarred_4 : decode b_Se_setBarred 4 = .ok (.iload_n 1, 1) := by decide +kernel
theorem d_Se_setBarred_5 : decode b_Se_setBarred 5 = .ok (.baload, 1) := by decide +kernel
theorem d_Se_setBarred_6 : decode b_Se_setBarred 6 = .ok (.istore_n 3, 1) := by decide +kernel
theorem d_Se_setBarred_7 : decode b_Se_setBarred 7 = .ok (.aload_n 0, 1) := by decide +kernel
theorem d_Se_setBarred_8 : decode b_Se_setBarred 8 = .ok (.getfield 9, 3) := by decide +kernel
theorem d_Se_setBarred_11 : decode b_Se_setBarred 11 = .ok (.iload_n 1, 1) := by decide +kernel
theorem d_Se_setBarred_12 : decode b_Se_setBarred 12 = .ok (.iload_n 2, 1) := by decide +kernel
theorem d_Se_setBarred_13 : decode b_Se_setBarred 13 = .ok (.bastore, 1) := by decide +kernel
theorem d_Se_setBarred_14 : decode b_Se_setBarred 14 = .ok (.iload_n 3, 1) := by decide +kernel
theorem d_Se_setBarred_15 : decode b_Se_setBarred 15 = .ok (.ireturn, 1) := by decide +kernel
theorem d_ES_nearest_0 : decode b_ES_nearest 0 = .ok (.aload_n 0, 1) := by decide +kernel
theorem d_ES_nearest_1 : decode b_ES_nearest 1 = .ok (.getfield 59, 3) := by decide +kernel
theorem d_ES_nearest_4 : decode b_ES_nearest 4 = .ok (.iload_n 1, 1) := by decide +kernel
theorem d_ES_nearest_5 : decode b_ES_nearest 5 = .ok (.invokevirtual 175, 3) := by decide +kernel
theorem d_ES_nearest_8 : decode b_ES_nearest 8 = .ok (.ifCond .eq (13), 3) := by decide +kernel
theorem d_ES_nearest_11 : decode b_ES_nearest 11 = .ok (.aload_n 0, 1) := by decide +kernel
theorem d_ES_nearest_12 : decode b_ES_nearest 12 = .ok (.getfield 59, 3) := by decide +kernel
theorem d_ES_nearest_15 : decode b_ES_nearest 15 = .ok (.invokevirtual 178, 3) := by decide +kernel
theorem d_ES_nearest_18 : decode b_ES_nearest 18 = .ok (.goto (5), 3) := by decide +kernel
theorem d_ES_nearest_21 : decode b_ES_nearest 21 = .ok (.bipush (-3), 2) := by decide +kernel
theorem d_ES_nearest_23 : decode b_ES_nearest 23 = .ok (.ireturn, 1) := by decide +kernel
theorem d_Se_find_0 : decode b_Se_find 0 = .ok (.aload_n 0, 1) := by decide +kernel
theorem d_Se_find_1 : decode b_Se_find 1 = .ok (.iload_n 1, 1) := by decide +kernel
theorem d_Se_find_2 : decode b_Se_find 2 = .ok (.putfield 38, 3) := by decide +kernel
theorem d_Se_find_5 : decode b_Se_find 5 = .ok (.aload_n 0, 1) := by decide +kernel
theorem d_Se_find_6 : decode b_Se_find 6 = .ok (.ldc 33, 2) := by decide +kernel
theorem d_Se_find_8 : decode b_Se_find 8 = .ok (.putfield 34, 3) := by decide +kernel
theorem d_Se_find_11 : decode b_Se_find 11 = .ok (.iconst (0), 1) := by decide +kernel
theorem d_Se_find_12 : decode b_Se_find 12 = .ok (.istore_n 2, 1) := by decide +kernel
theorem d_Se_find_13 : decode b_Se_find 13 = .ok (.iload_n 2, 1) := by decide +kernel
theorem d_Se_find_14 : decode b_Se_find 14 = .ok (.aload_n 0, 1) := by decide +kernel
theorem d_Se_find_15 : decode b_Se_find 15 = .ok (.getfield 41, 3) := by decide +kernel
theorem d_Se_find_18 : decode b_Se_find 18 = .ok (.if_icmp .ge (19), 3) := by decide +kernel
theorem d_Se_find_21 : decode b_Se_find 21 = .ok (.aload_n 0, 1) := by decide +kernel
theorem d_Se_find_22 : decode b_Se_find 22 = .ok (.iload_n 2, 1) := by decide +kernel
theorem d_Se_find_23 : decode b_Se_find 23 = .ok (.invokevirtual 52, 3) := by decide +kernel
theorem d_Se_find_26 : decode b_Se_find 26 = .ok (.aload_n 0, 1) := by decide +kernel
theorem d_Se_find_27 : decode b_Se_find 27 = .ok (.iload_n 2, 1) := by decide +kernel
theorem d_Se_find_28 : decode b_Se_find 28 = .ok (.invokevirtual 56, 3) := by decide +kernel
theorem d_Se_find_31 : decode b_Se_find 31 = .ok (.iinc 2 (1), 3) := by decide +kernel
theorem d_Se_find_34 : decode b_Se_find 34 = .ok (.goto (-21), 3) := by decide +kernel
theorem d_Se_find_37 : decode b_Se_find 37 = .ok (.aload_n 0, 1) := by decide +kernel
theorem d_Se_find_38 : decode b_Se_find 38 = .ok (.iconst (0), 1) := by decide +kernel
theorem d_Se_find_39 : decode b_Se_find 39 = .ok (.iconst (0), 1) := by decide +kernel
theorem d_Se_find_40 : decode b_Se_find 40 = .ok (.invokevirtual 59, 3) := by decide +kernel
theorem d_Se_find_43 : decode b_Se_find 43 = .ok (.aload_n 0, 1) := by decide +kernel
theorem d_Se_find_44 : decode b_Se_find 44 = .ok (.getfield 34, 3) := by decide +kernel
theorem d_Se_find_47 : decode b_Se_find 47 = .ok (.ldc 33, 2) := by decide +kernel
theorem d_Se_find_49 : decode b_Se_find 49 = .ok (.if_icmp .ge (7), 3) := by decide +kernel
theorem d_Se_find_52 : decode b_Se_find 52 = .ok (.iconst (1), 1) := by decide +kernel
theorem d_Se_find_53 : decode b_Se_find 53 = .ok (.goto (4), 3) := by decide +kernel
theorem d_Se_find_56 : decode b_Se_find 56 = .ok (.iconst (0), 1) := by decide +kernel
theorem d_Se_find_57 : decode b_Se_find 57 = .ok (.ireturn, 1) := by decide +kernel
theorem d_Se_gatherChoices_0 : decode b_Se_gatherChoices 0 = .ok (.aload_n 0, 1) := by decide +kernel
theorem d_Se_gatherChoices_1 : decode b_Se_gatherChoices 1 = .ok (.getfield 20, 3) := by decide +kernel
theorem d_Se_gatherChoices_4 : decode b_Se_gatherChoices 4 = .ok (.iload_n 1, 1) := by decide +kernel
theorem d_Se_gatherChoices_5 : decode b_Se_gatherChoices 5 = .ok (.iconst (0), 1) := by decide +kernel
theorem d_Se_gatherChoices_6 : decode b_Se_gatherChoices 6 = .ok (.iastore, 1) := by decide +kernel
theorem d_Se_gatherChoices_7 : decode b_Se_gatherChoices 7 = .ok (.aload_n 0, 1) := by decide +kernel
theorem d_Se_gatherChoices_8 : decode b_Se_gatherChoices 8 = .ok (.iload_n 1, 1) := by decide +kernel
theorem d_Se_gatherChoices_9 : decode b_Se_gatherChoices 9 = .ok (.aload_n 0, 1) := by decide +kernel
theorem d_Se_gatherChoices_10 : decode b_Se_gatherChoices 10 = .ok (.getfield 48, 3) := by decide +kernel
theorem d_Se_gatherChoices_13 : decode b_Se_gatherChoices 13 = .ok (.iconst (-1), 1) := by decide +kernel
theorem d_Se_gatherChoices_14 : decode b_Se_gatherChoices 14 = .ok (.invokevirtual 63, 3) := by decide +kernel
theorem d_Se_gatherChoices_17 : decode b_Se_gatherChoices 17 = .ok (.iload_n 1, 1) := by decide +kernel
theorem d_Se_gatherChoices_18 : decode b_Se_gatherChoices 18 = .ok (.iaload, 1) := by decide +kernel
theorem d_Se_gatherChoices_19 : decode b_Se_gatherChoices 19 = .ok (.invokevirtual 69, 3) := by decide +kernel
theorem d_Se_gatherChoices_22 : decode b_Se_gatherChoices 22 = .ok (.aload_n 0, 1) := by decide +kernel
theorem d_Se_gatherChoices_23 : decode b_Se_gatherChoices 23 = .ok (.getfield 9, 3) := by decide +kernel
theorem d_Se_gatherChoices_26 : decode b_Se_gatherChoices 26 = .ok (.iload_n 1, 1) := by decide +kernel
theorem d_Se_gatherChoices_27 : decode b_Se_gatherChoices 27 = .ok (.baload, 1) := by decide +kernel
theorem d_Se_gatherChoices_28 : decode b_Se_gatherChoices 28 = .ok (.ifCond .eq (4), 3) := by decide +kernel
theorem d_Se_gatherChoices_31 : decode b_Se_gatherChoices 31 = .ok (.return_, 1) := by decide +kernel
theorem d_Se_gatherChoices_32 : decode b_Se_gatherChoices 32 = .ok (.iconst (0), 1) := by decide +kernel
theorem d_Se_gatherChoices_33 : decode b_Se_gatherChoices 33 = .ok (.istore_n 2, 1) := by decide +kernel
theorem d_Se_gatherChoices_34 : decode b_Se_gatherChoices 34 = .ok (.iload_n 2, 1) := by decide +kernel
theorem d_Se_gatherChoices_35 : decode b_Se_gatherChoices 35 = .ok (.aload_n 0, 1) := by decide +kernel
theorem d_Se_gatherChoices_36 : decode b_Se_gatherChoices 36 = .ok (.getfield 48, 3) := by decide +kernel
theorem d_Se_gatherChoices_39 : decode b_Se_gatherChoices 39 = .ok (.invokevirtual 72, 3) := by decide +kernel
theorem d_Se_gatherChoices_42 : decode b_Se_gatherChoices 42 = .ok (.if_icmp .ge (24), 3) := by decide +kernel
theorem d_Se_gatherChoices_45 : decode b_Se_gatherChoices 45 = .ok (.aload_n 0, 1) := by decide +kernel
theorem d_Se_gatherChoices_46 : decode b_Se_gatherChoices 46 = .ok (.iload_n 1, 1) := by decide +kernel
theorem d_Se_gatherChoices_47 : decode b_Se_gatherChoices 47 = .ok (.aload_n 0, 1) := by decide +kernel
theorem d_Se_gatherChoices_48 : decode b_Se_gatherChoices 48 = .ok (.getfield 48, 3) := by decide +kernel
theorem d_Se_gatherChoices_51 : decode b_Se_gatherChoices 51 = .ok (.iload_n 2, 1) := by decide +kernel
theorem d_Se_gatherChoices_52 : decode b_Se_gatherChoices 52 = .ok (.invokevirtual 63, 3) := by decide +kernel
theorem d_Se_gatherChoices_55 : decode b_Se_gatherChoices 55 = .ok (.iload_n 1, 1) := by decide +kernel
theorem d_Se_gatherChoices_56 : decode b_Se_gatherChoices 56 = .ok (.iaload, 1) := by decide +kernel
theorem d_Se_gatherChoices_57 : decode b_Se_gatherChoices 57 = .ok (.invokevirtual 69, 3) := by decide +kernel
theorem d_Se_gatherChoices_60 : decode b_Se_gatherChoices 60 = .ok (.iinc 2 (1), 3) := by decide +kernel
theorem d_Se_gatherChoices_63 : decode b_Se_gatherChoices 63 = .ok (.goto (-29), 3) := by decide +kernel
theorem d_Se_gatherChoices_66 : decode b_Se_gatherChoices 66 = .ok (.return_, 1) := by decide +kernel
theorem d_Se_addChoice_0 : decode b_Se_addChoice 0 = .ok (.aload_n 0, 1) := by decide +kernel
theorem d_Se_addChoice_1 : decode b_Se_addChoice 1 = .ok (.getfield 17, 3) := by decide +kernel
theorem d_Se_addChoice_4 : decode b_Se_addChoice 4 = .ok (.iload_n 1, 1) := by decide +kernel
theorem d_Se_addChoice_5 : decode b_Se_addChoice 5 = .ok (.aaload, 1) := by decide +kernel
theorem d_Se_addChoice_6 : decode b_Se_addChoice 6 = .ok (.astore_n 3, 1) := by decide +kernel
theorem d_Se_addChoice_7 : decode b_Se_addChoice 7 = .ok (.aload_n 0, 1) := by decide +kernel
theorem d_Se_addChoice_8 : decode b_Se_addChoice 8 = .ok (.getfield 20, 3) := by decide +kernel
theorem d_Se_addChoice_11 : decode b_Se_addChoice 11 = .ok (.iload_n 1, 1) := by decide +kernel
theorem d_Se_addChoice_12 : decode b_Se_addChoice 12 = .ok (.iaload, 1) := by decide +kernel
theorem d_Se_addChoice_13 : decode b_Se_addChoice 13 = .ok (.istore 4, 2) := by decide +kernel
theorem d_Se_addChoice_15 : decode b_Se_addChoice 15 = .ok (.iconst (0), 1) := by decide +kernel
theorem d_Se_addChoice_16 : decode b_Se_addChoice 16 = .ok (.istore 5, 2) := by decide +kernel
theorem d_Se_addChoice_18 : decode b_Se_addChoice 18 = .ok (.iload 5, 2) := by decide +kernel
theorem d_Se_addChoice_20 : decode b_Se_addChoice 20 = .ok (.iload 4, 2) := by decide +kernel
theorem d_Se_addChoice_22 : decode b_Se_addChoice 22 = .ok (.if_icmp .ge (17), 3) := by decide +kernel
theorem d_Se_addChoice_25 : decode b_Se_addChoice 25 = .ok (.aload_n 3, 1) := by decide +kernel
theorem d_Se_addChoice_26 : decode b_Se_addChoice 26 = .ok (.iload 5, 2) := by decide +kernel
theorem d_Se_addChoice_28 : decode b_Se_addChoice 28 = .ok (.iaload, 1) := by decide +kernel
theorem d_Se_addChoice_29 : decode b_Se_addChoice 29 = .ok (.iload_n 2, 1) := by decide +kernel
theorem d_Se_addChoice_30 : decode b_Se_addChoice 30 = .ok (.if_icmp .ge (9), 3) := by decide +kernel
theorem d_Se_addChoice_33 : decode b_Se_addChoice 33 = .ok (.iinc 5 (1), 3) := by decide +kernel
theorem d_Se_addChoice_36 : decode b_Se_addChoice 36 = .ok (.goto (-18), 3) := by decide +kernel
theorem d_Se_addChoice_39 : decode b_Se_addChoice 39 = .ok (.iload 5, 2) := by decide +kernel
theorem d_Se_addChoice_41 : decode b_Se_addChoice 41 = .ok (.iload 4, 2) := by decide +kernel
theorem d_Se_addChoice_43 : decode b_Se_addChoice 43 = .ok (.if_icmp .ge (15), 3) := by decide +kernel
theorem d_Se_addChoice_46 : decode b_Se_addChoice 46 = .ok (.aload_n 3, 1) := by decide +kernel
theorem d_Se_addChoice_47 : decode b_Se_addChoice 47 = .ok (.iload 5, 2) := by decide +kernel
theorem d_Se_addChoice_49 : decode b_Se_addChoice 49 = .ok (.iaload, 1) := by decide +kernel
theorem d_Se_addChoice_50 : decode b_Se_addChoice 50 = .ok (.iload_n 2, 1) := by decide +kernel
theorem d_Se_addChoice_51 : decode b_Se_addChoice 51 = .ok (.if_icmp .ne (7), 3) := by decide +kernel
theorem d_Se_addChoice_54 : decode b_Se_addChoice 54 = .ok (.iconst (1), 1) := by decide +kernel
theorem d_Se_addChoice_55 : decode b_Se_addChoice 55 = .ok (.goto (4), 3) := by decide +kernel
theorem d_Se_addChoice_58 : decode b_Se_addChoice 58 = .ok (.iconst (0), 1) := by decide +kernel
theorem d_Se_addChoice_59 : decode b_Se_addChoice 59 = .ok (.istore 6, 2) := by decide +kernel
theorem d_Se_addChoice_61 : decode b_Se_addChoice 61 = .ok (.iload 6, 2) := by decide +kernel
theorem d_Se_addChoice_63 : decode b_Se_addChoice 63 = .ok (.ifCond .ne (10), 3) := by decide +kernel
theorem d_Se_addChoice_66 : decode b_Se_addChoice 66 = .ok (.iload 4, 2) := by decide +kernel
theorem d_Se_addChoice_68 : decode b_Se_addChoice 68 = .ok (.aload_n 3, 1) := by decide +kernel
theorem d_Se_addChoice_69 : decode b_Se_addChoice 69 = .ok (.arraylength, 1) := by decide +kernel
theorem d_Se_addChoice_70 : decode b_Se_addChoice 70 = .ok (.if_icmp .lt (4), 3) := by decide +kernel
theorem d_Se_addChoice_73 : decode b_Se_addChoice 73 = .ok (.return_, 1) := by decide +kernel
theorem d_Se_addChoice_74 : decode b_Se_addChoice 74 = .ok (.iload 4, 2) := by decide +kernel
theorem d_Se_addChoice_76 : decode b_Se_addChoice 76 = .ok (.istore 7, 2) := by decide +kernel
theorem d_Se_addChoice_78 : decode b_Se_addChoice 78 = .ok (.iload 7, 2) := by decide +kernel
theorem d_Se_addChoice_80 : decode b_Se_addChoice 80 = .ok (.iload 5, 2) := by decide +kernel
theorem d_Se_addChoice_82 : decode b_Se_addChoice 82 = .ok (.if_icmp .le (19), 3) := by decide +kernel
theorem d_Se_addChoice_85 : decode b_Se_addChoice 85 = .ok (.aload_n 3, 1) := by decide +kernel
theorem d_Se_addChoice_86 : decode b_Se_addChoice 86 = .ok (.iload 7, 2) := by decide +kernel
theorem d_Se_addChoice_88 : decode b_Se_addChoice 88 = .ok (.aload_n 3, 1) := by decide +kernel
theorem d_Se_addChoice_89 : decode b_Se_addChoice 89 = .ok (.iload 7, 2) := by decide +kernel
theorem d_Se_addChoice_91 : decode b_Se_addChoice 91 = .ok (.iconst (1), 1) := by decide +kernel
theorem d_Se_addChoice_92 : decode b_Se_addChoice 92 = .ok (.isub, 1) := by decide +kernel
theorem d_Se_addChoice_93 : decode b_Se_addChoice 93 = .ok (.iaload, 1) := by decide +kernel
theorem d_Se_addChoice_94 : decode b_Se_addChoice 94 = .ok (.iastore, 1) := by decide +kernel
theorem d_Se_addChoice_95 : decode b_Se_addChoice 95 = .ok (.iinc 7 (-1), 3) := by decide +kernel
theorem d_Se_addChoice_98 : decode b_Se_addChoice 98 = .ok (.goto (-20), 3) := by decide +kernel
theorem d_Se_addChoice_101 : decode b_Se_addChoice 101 = .ok (.aload_n 3, 1) := by decide +kernel
theorem d_Se_addChoice_102 : decode b_Se_addChoice 102 = .ok (.iload 5, 2) := by decide +kernel
theorem d_Se_addChoice_104 : decode b_Se_addChoice 104 = .ok (.iload_n 2, 1) := by decide +kernel
theorem d_Se_addChoice_105 : decode b_Se_addChoice 105 = .ok (.iastore, 1) := by decide +kernel
theorem d_Se_addChoice_106 : decode b_Se_addChoice 106 = .ok (.aload_n 0, 1) := by decide +kernel
theorem d_Se_addChoice_107 : decode b_Se_addChoice 107 = .ok (.getfield 20, 3) := by decide +kernel
theorem d_Se_addChoice_110 : decode b_Se_addChoice 110 = .ok (.iload_n 1, 1) := by decide +kernel
theorem d_Se_addChoice_111 : decode b_Se_addChoice 111 = .ok (.iload 4, 2) := by decide +kernel
theorem d_Se_addChoice_113 : decode b_Se_addChoice 113 = .ok (.iconst (1), 1) := by decide +kernel
theorem d_Se_addChoice_114 : decode b_Se_addChoice 114 = .ok (.iadd, 1) := by decide +kernel
theorem d_Se_addChoice_115 : decode b_Se_addChoice 115 = .ok (.iastore, 1) := by decide +kernel
theorem d_Se_addChoice_116 : decode b_Se_addChoice 116 = .ok (.return_, 1) := by decide +kernel
theorem d_Se_open_0 : decode b_Se_open 0 = .ok (.aload_n 0, 1) := by decide +kernel
theorem d_Se_open_1 : decode b_Se_open 1 = .ok (.getfield 24, 3) := by decide +kernel
theorem d_Se_open_4 : decode b_Se_open 4 = .ok (.iload_n 1, 1) := by decide +kernel
theorem d_Se_open_5 : decode b_Se_open 5 = .ok (.aload_n 0, 1) := by decide +kernel
theorem d_Se_open_6 : decode b_Se_open 6 = .ok (.getfield 17, 3) := by decide +kernel
theorem d_Se_open_9 : decode b_Se_open 9 = .ok (.iload_n 1, 1) := by decide +kernel
theorem d_Se_open_10 : decode b_Se_open 10 = .ok (.aaload, 1) := by decide +kernel
theorem d_Se_open_11 : decode b_Se_open 11 = .ok (.iconst (0), 1) := by decide +kernel
theorem d_Se_open_12 : decode b_Se_open 12 = .ok (.iaload, 1) := by decide +kernel
theorem d_Se_open_13 : decode b_Se_open 13 = .ok (.iastore, 1) := by decide +kernel
theorem d_Se_open_14 : decode b_Se_open 14 = .ok (.aload_n 0, 1) := by decide +kernel
theorem d_Se_open_15 : decode b_Se_open 15 = .ok (.getfield 27, 3) := by decide +kernel
theorem d_Se_open_18 : decode b_Se_open 18 = .ok (.iload_n 1, 1) := by decide +kernel
theorem d_Se_open_19 : decode b_Se_open 19 = .ok (.aload_n 0, 1) := by decide +kernel
theorem d_Se_open_20 : decode b_Se_open 20 = .ok (.getfield 17, 3) := by decide +kernel
theorem d_Se_open_23 : decode b_Se_open 23 = .ok (.iload_n 1, 1) := by decide +kernel
theorem d_Se_open_24 : decode b_Se_open 24 = .ok (.aaload, 1) := by decide +kernel
theorem d_Se_open_25 : decode b_Se_open 25 = .ok (.aload_n 0, 1) := by decide +kernel
theorem d_Se_open_26 : decode b_Se_open 26 = .ok (.getfield 20, 3) := by decide +kernel
theorem d_Se_open_29 : decode b_Se_open 29 = .ok (.iload_n 1, 1) := by decide +kernel
theorem d_Se_open_30 : decode b_Se_open 30 = .ok (.iaload, 1) := by decide +kernel
theorem d_Se_open_31 : decode b_Se_open 31 = .ok (.iconst (1), 1) := by decide +kernel
theorem d_Se_open_32 : decode b_Se_open 32 = .ok (.isub, 1) := by decide +kernel
theorem d_Se_open_33 : decode b_Se_open 33 = .ok (.iaload, 1) := by decide +kernel
theorem d_Se_open_34 : decode b_Se_open 34 = .ok (.iastore, 1) := by decide +kernel
theorem d_Se_open_35 : decode b_Se_open 35 = .ok (.return_, 1) := by decide +kernel
theorem d_Se_visit_0 : decode b_Se_visit 0 = .ok (.iload_n 2, 1) := by decide +kernel
theorem d_Se_visit_1 : decode b_Se_visit 1 = .ok (.aload_n 0, 1) := by decide +kernel
theorem d_Se_visit_2 : decode b_Se_visit 2 = .ok (.getfield 34, 3) := by decide +kernel
theorem d_Se_visit_5 : decode b_Se_visit 5 = .ok (.if_icmp .ge (25), 3) := by decide +kernel
theorem d_Se_visit_8 : decode b_Se_visit 8 = .ok (.aload_n 0, 1) := by decide +kernel
theorem d_Se_visit_9 : decode b_Se_visit 9 = .ok (.getfield 44, 3) := by decide +kernel
theorem d_Se_visit_12 : decode b_Se_visit 12 = .ok (.aload_n 0, 1) := by decide +kernel
theorem d_Se_visit_13 : decode b_Se_visit 13 = .ok (.getfield 24, 3) := by decide +kernel
theorem d_Se_visit_16 : decode b_Se_visit 16 = .ok (.aload_n 0, 1) := by decide +kernel
theorem d_Se_visit_17 : decode b_Se_visit 17 = .ok (.getfield 27, 3) := by decide +kernel
theorem d_Se_visit_20 : decode b_Se_visit 20 = .ok (.invokevirtual 76, 3) := by decide +kernel
theorem d_Se_visit_23 : decode b_Se_visit 23 = .ok (.aload_n 0, 1) := by decide +kernel
theorem d_Se_visit_24 : decode b_Se_visit 24 = .ok (.getfield 38, 3) := by decide +kernel
theorem d_Se_visit_27 : decode b_Se_visit 27 = .ok (.if_icmp .ge (4), 3) := by decide +kernel
theorem d_Se_visit_30 : decode b_Se_visit 30 = .ok (.return_, 1) := by decide +kernel
theorem d_Se_visit_31 : decode b_Se_visit 31 = .ok (.iload_n 1, 1) := by decide +kernel
theorem d_Se_visit_32 : decode b_Se_visit 32 = .ok (.aload_n 0, 1) := by decide +kernel
theorem d_Se_visit_33 : decode b_Se_visit 33 = .ok (.getfield 41, 3) := by decide +kernel
theorem d_Se_visit_36 : decode b_Se_visit 36 = .ok (.if_icmp .ge (12), 3) := by decide +kernel
theorem d_Se_visit_39 : decode b_Se_visit 39 = .ok (.aload_n 0, 1) := by decide +kernel
theorem d_Se_visit_40 : decode b_Se_visit 40 = .ok (.iload_n 1, 1) := by decide +kernel
theorem d_Se_visit_41 : decode b_Se_visit 41 = .ok (.iload_n 2, 1) := by decide +kernel
theorem d_Se_visit_42 : decode b_Se_visit 42 = .ok (.invokevirtual 82, 3) := by decide +kernel
theorem d_Se_visit_45 : decode b_Se_visit 45 = .ok (.goto (8), 3) := by decide +kernel
theorem d_Se_visit_48 : decode b_Se_visit 48 = .ok (.aload_n 0, 1) := by decide +kernel
theorem d_Se_visit_49 : decode b_Se_visit 49 = .ok (.iload_n 2, 1) := by decide +kernel
theorem d_Se_visit_50 : decode b_Se_visit 50 = .ok (.invokevirtual 85, 3) := by decide +kernel
theorem d_Se_visit_53 : decode b_Se_visit 53 = .ok (.return_, 1) := by decide +kernel
theorem d_Ln_boundWithin_0 : decode b_Ln_boundWithin 0 = .ok (.iconst (0), 1) := by decide +kernel
theorem d_Ln_boundWithin_1 : decode b_Ln_boundWithin 1 = .ok (.istore_n 3, 1) := by decide +kernel
theorem d_Ln_boundWithin_2 : decode b_Ln_boundWithin 2 = .ok (.iload_n 3, 1) := by decide +kernel
theorem d_Ln_boundWithin_3 : decode b_Ln_boundWithin 3 = .ok (.aload_n 0, 1) := by decide +kernel
theorem d_Ln_boundWithin_4 : decode b_Ln_boundWithin 4 = .ok (.getfield 33, 3) := by decide +kernel
theorem d_Ln_boundWithin_7 : decode b_Ln_boundWithin 7 = .ok (.if_icmp .ge (22), 3) := by decide +kernel
theorem d_Ln_boundWithin_10 : decode b_Ln_boundWithin 10 = .ok (.aload_n 0, 1) := by decide +kernel
theorem d_Ln_boundWithin_11 : decode b_Ln_boundWithin 11 = .ok (.getfield 24, 3) := by decide +kernel
theorem d_Ln_boundWithin_14 : decode b_Ln_boundWithin 14 = .ok (.iload_n 3, 1) := by decide +kernel
theorem d_Ln_boundWithin_15 : decode b_Ln_boundWithin 15 = .ok (.aload_n 0, 1) := by decide +kernel
theorem d_Ln_boundWithin_16 : decode b_Ln_boundWithin 16 = .ok (.iload_n 3, 1) := by decide +kernel
theorem d_Ln_boundWithin_17 : decode b_Ln_boundWithin 17 = .ok (.aload_n 1, 1) := by decide +kernel
theorem d_Ln_boundWithin_18 : decode b_Ln_boundWithin 18 = .ok (.aload_n 2, 1) := by decide +kernel
theorem d_Ln_boundWithin_19 : decode b_Ln_boundWithin 19 = .ok (.invokevirtual 48, 3) := by decide +kernel
theorem d_Ln_boundWithin_22 : decode b_Ln_boundWithin 22 = .ok (.iastore, 1) := by decide +kernel
theorem d_Ln_boundWithin_23 : decode b_Ln_boundWithin 23 = .ok (.iinc 3 (1), 3) := by decide +kernel
theorem d_Ln_boundWithin_26 : decode b_Ln_boundWithin 26 = .ok (.goto (-24), 3) := by decide +kernel
theorem d_Ln_boundWithin_29 : decode b_Ln_boundWithin 29 = .ok (.iconst (0), 1) := by decide +kernel
theorem d_Ln_boundWithin_30 : decode b_Ln_boundWithin 30 = .ok (.istore_n 3, 1) := by decide +kernel
theorem d_Ln_boundWithin_31 : decode b_Ln_boundWithin 31 = .ok (.iconst (0), 1) := by decide +kernel
theorem d_Ln_boundWithin_32 : decode b_Ln_boundWithin 32 = .ok (.istore 4, 2) := by decide +kernel
theorem d_Ln_boundWithin_34 : decode b_Ln_boundWithin 34 = .ok (.iload 4, 2) := by decide +kernel
theorem d_Ln_boundWithin_36 : decode b_Ln_boundWithin 36 = .ok (.aload_n 0, 1) := by decide +kernel
theorem d_Ln_boundWithin_37 : decode b_Ln_boundWithin 37 = .ok (.getfield 37, 3) := by decide +kernel
theorem d_Ln_boundWithin_40 : decode b_Ln_boundWithin 40 = .ok (.if_icmp .ge (24), 3) := by decide +kernel
theorem d_Ln_boundWithin_43 : decode b_Ln_boundWithin 43 = .ok (.iload_n 3, 1) := by decide +kernel
theorem d_Ln_boundWithin_44 : decode b_Ln_boundWithin 44 = .ok (.aload_n 0, 1) := by decide +kernel
theorem d_Ln_boundWithin_45 : decode b_Ln_boundWithin 45 = .ok (.getfield 24, 3) := by decide +kernel
theorem d_Ln_boundWithin_48 : decode b_Ln_boundWithin 48 = .ok (.aload_n 0, 1) := by decide +kernel
theorem d_Ln_boundWithin_49 : decode b_Ln_boundWithin 49 = .ok (.getfield 27, 3) := by decide +kernel
theorem d_Ln_boundWithin_52 : decode b_Ln_boundWithin 52 = .ok (.iload 4, 2) := by decide +kernel
theorem d_Ln_boundWithin_54 : decode b_Ln_boundWithin 54 = .ok (.iaload, 1) := by decide +kernel
theorem d_Ln_boundWithin_55 : decode b_Ln_boundWithin 55 = .ok (.iaload, 1) := by decide +kernel
theorem d_Ln_boundWithin_56 : decode b_Ln_boundWithin 56 = .ok (.iadd, 1) := by decide +kernel
theorem d_Ln_boundWithin_57 : decode b_Ln_boundWithin 57 = .ok (.istore_n 3, 1) := by decide +kernel
theorem d_Ln_boundWithin_58 : decode b_Ln_boundWithin 58 = .ok (.iinc 4 (1), 3) := by decide +kernel
theorem d_Ln_boundWithin_61 : decode b_Ln_boundWithin 61 = .ok (.goto (-27), 3) := by decide +kernel
theorem d_Ln_boundWithin_64 : decode b_Ln_boundWithin 64 = .ok (.iconst (0), 1) := by decide +kernel
theorem d_Ln_boundWithin_65 : decode b_Ln_boundWithin 65 = .ok (.istore 4, 2) := by decide +kernel
theorem d_Ln_boundWithin_67 : decode b_Ln_boundWithin 67 = .ok (.iload 4, 2) := by decide +kernel
theorem d_Ln_boundWithin_69 : decode b_Ln_boundWithin 69 = .ok (.bipush (6), 2) := by decide +kernel
theorem d_Ln_boundWithin_71 : decode b_Ln_boundWithin 71 = .ok (.if_icmp .ge (39), 3) := by decide +kernel
theorem d_Ln_boundWithin_74 : decode b_Ln_boundWithin 74 = .ok (.iload_n 3, 1) := by decide +kernel
theorem d_Ln_boundWithin_75 : decode b_Ln_boundWithin 75 = .ok (.aload_n 0, 1) := by decide +kernel
theorem d_Ln_boundWithin_76 : decode b_Ln_boundWithin 76 = .ok (.getfield 30, 3) := by decide +kernel
theorem d_Ln_boundWithin_79 : decode b_Ln_boundWithin 79 = .ok (.iload 4, 2) := by decide +kernel
theorem d_Ln_boundWithin_81 : decode b_Ln_boundWithin 81 = .ok (.iaload, 1) := by decide +kernel
theorem d_Ln_boundWithin_82 : decode b_Ln_boundWithin 82 = .ok (.aload_n 1, 1) := by decide +kernel
theorem d_Ln_boundWithin_83 : decode b_Ln_boundWithin 83 = .ok (.iload 4, 2) := by decide +kernel
theorem d_Ln_boundWithin_85 : decode b_Ln_boundWithin 85 = .ok (.iaload, 1) := by decide +kernel
theorem d_Ln_boundWithin_86 : decode b_Ln_boundWithin 86 = .ok (.imul, 1) := by decide +kernel
theorem d_Ln_boundWithin_87 : decode b_Ln_boundWithin 87 = .ok (.aload_n 0, 1) := by decide +kernel
theorem d_Ln_boundWithin_88 : decode b_Ln_boundWithin 88 = .ok (.getfield 30, 3) := by decide +kernel
theorem d_Ln_boundWithin_91 : decode b_Ln_boundWithin 91 = .ok (.iload 4, 2) := by decide +kernel
theorem d_Ln_boundWithin_93 : decode b_Ln_boundWithin 93 = .ok (.iaload, 1) := by decide +kernel
theorem d_Ln_boundWithin_94 : decode b_Ln_boundWithin 94 = .ok (.aload_n 2, 1) := by decide +kernel
theorem d_Ln_boundWithin_95 : decode b_Ln_boundWithin 95 = .ok (.iload 4, 2) := by decide +kernel
theorem d_Ln_boundWithin_97 : decode b_Ln_boundWithin 97 = .ok (.iaload, 1) := by decide +kernel
theorem d_Ln_boundWithin_98 : decode b_Ln_boundWithin 98 = .ok (.imul, 1) := by decide +kernel
theorem d_Ln_boundWithin_99 : decode b_Ln_boundWithin 99 = .ok (.invokestatic 52, 3) := by decide +kernel
theorem d_Ln_boundWithin_102 : decode b_Ln_boundWithin 102 = .ok (.iadd, 1) := by decide +kernel
theorem d_Ln_boundWithin_103 : decode b_Ln_boundWithin 103 = .ok (.istore_n 3, 1) := by decide +kernel
theorem d_Ln_boundWithin_104 : decode b_Ln_boundWithin 104 = .ok (.iinc 4 (1), 3) := by decide +kernel
theorem d_Ln_boundWithin_107 : decode b_Ln_boundWithin 107 = .ok (.goto (-40), 3) := by decide +kernel
theorem d_Ln_boundWithin_110 : decode b_Ln_boundWithin 110 = .ok (.iload_n 3, 1) := by decide +kernel
theorem d_Ln_boundWithin_111 : decode b_Ln_boundWithin 111 = .ok (.ireturn, 1) := by decide +kernel
theorem d_Ln_peakOf_0 : decode b_Ln_peakOf 0 = .ok (.aload_n 0, 1) := by decide +kernel
theorem d_Ln_peakOf_1 : decode b_Ln_peakOf 1 = .ok (.getfield 9, 3) := by decide +kernel
theorem d_Ln_peakOf_4 : decode b_Ln_peakOf 4 = .ok (.iload_n 1, 1) := by decide +kernel
theorem d_Ln_peakOf_5 : decode b_Ln_peakOf 5 = .ok (.iaload, 1) := by decide +kernel
theorem d_Ln_peakOf_6 : decode b_Ln_peakOf 6 = .ok (.istore 4, 2) := by decide +kernel
theorem d_Ln_peakOf_8 : decode b_Ln_peakOf 8 = .ok (.iload 4, 2) := by decide +kernel
theorem d_Ln_peakOf_10 : decode b_Ln_peakOf 10 = .ok (.iconst (-1), 1) := by decide +kernel
theorem d_Ln_peakOf_11 : decode b_Ln_peakOf 11 = .ok (.if_icmp .ne (10), 3) := by decide +kernel
theorem d_Ln_peakOf_14 : decode b_Ln_peakOf 14 = .ok (.aload_n 0, 1) := by decide +kernel
theorem d_Ln_peakOf_15 : decode b_Ln_peakOf 15 = .ok (.getfield 15, 3) := by decide +kernel
theorem d_Ln_peakOf_18 : decode b_Ln_peakOf 18 = .ok (.iload_n 1, 1) := by decide +kernel
theorem d_Ln_peakOf_19 : decode b_Ln_peakOf 19 = .ok (.iaload, 1) := by decide +kernel
theorem d_Ln_peakOf_20 : decode b_Ln_peakOf 20 = .ok (.ireturn, 1) := by decide +kernel
theorem d_Ln_peakOf_21 : decode b_Ln_peakOf 21 = .ok (.aload_n 3, 1) := by decide +kernel
theorem d_Ln_peakOf_22 : decode b_Ln_peakOf 22 = .ok (.iload 4, 2) := by decide +kernel
theorem d_Ln_peakOf_24 : decode b_Ln_peakOf 24 = .ok (.iaload, 1) := by decide +kernel
theorem d_Ln_peakOf_25 : decode b_Ln_peakOf 25 = .ok (.aload_n 0, 1) := by decide +kernel
theorem d_Ln_peakOf_26 : decode b_Ln_peakOf 26 = .ok (.getfield 15, 3) := by decide +kernel
theorem d_Ln_peakOf_29 : decode b_Ln_peakOf 29 = .ok (.iload_n 1, 1) := by decide +kernel
theorem d_Ln_peakOf_30 : decode b_Ln_peakOf 30 = .ok (.iaload, 1) := by decide +kernel
theorem d_Ln_peakOf_31 : decode b_Ln_peakOf 31 = .ok (.if_icmp .gt (15), 3) := by decide +kernel
theorem d_Ln_peakOf_34 : decode b_Ln_peakOf 34 = .ok (.aload_n 0, 1) := by decide +kernel
theorem d_Ln_peakOf_35 : decode b_Ln_peakOf 35 = .ok (.getfield 24, 3) := by decide +kernel
theorem d_Ln_peakOf_38 : decode b_Ln_peakOf 38 = .ok (.aload_n 0, 1) := by decide +kernel
theorem d_Ln_peakOf_39 : decode b_Ln_peakOf 39 = .ok (.getfield 18, 3) := by decide +kernel
theorem d_Ln_peakOf_42 : decode b_Ln_peakOf 42 = .ok (.iload_n 1, 1) := by decide +kernel
theorem d_Ln_peakOf_43 : decode b_Ln_peakOf 43 = .ok (.iaload, 1) := by decide +kernel
theorem d_Ln_peakOf_44 : decode b_Ln_peakOf 44 = .ok (.iaload, 1) := by decide +kernel
theorem d_Ln_peakOf_45 : decode b_Ln_peakOf 45 = .ok (.ireturn, 1) := by decide +kernel
theorem d_Ln_peakOf_46 : decode b_Ln_peakOf 46 = .ok (.aload_n 2, 1) := by decide +kernel
theorem d_Ln_peakOf_47 : decode b_Ln_peakOf 47 = .ok (.iload 4, 2) := by decide +kernel
end
section
theorem d_Ln_peakOf_49 : decode b_Ln_peakOf 49 = .ok (.iaload, 1) := by decide +kernel
theorem d_Ln_peakOf_50 : decode b_Ln_peakOf 50 = .ok (.aload_n 0, 1) := by decide +kernel
theorem d_Ln_peakOf_51 : decode b_Ln_peakOf 51 = .ok (.getfield 15, 3) := by decide +kernel
theorem d_Ln_peakOf_54 : decode b_Ln_peakOf 54 = .ok (.iload_n 1, 1) := by decide +kernel
theorem d_Ln_peakOf_55 : decode b_Ln_peakOf 55 = .ok (.iaload, 1) := by decide +kernel
theorem d_Ln_peakOf_56 : decode b_Ln_peakOf 56 = .ok (.if_icmp .le (15), 3) := by decide +kernel
theorem d_Ln_peakOf_59 : decode b_Ln_peakOf 59 = .ok (.aload_n 0, 1) := by decide +kernel
theorem d_Ln_peakOf_60 : decode b_Ln_peakOf 60 = .ok (.getfield 24, 3) := by decide +kernel
theorem d_Ln_peakOf_63 : decode b_Ln_peakOf 63 = .ok (.aload_n 0, 1) := by decide +kernel
theorem d_Ln_peakOf_64 : decode b_Ln_peakOf 64 = .ok (.getfield 21, 3) := by decide +kernel
theorem d_Ln_peakOf_67 : decode b_Ln_peakOf 67 = .ok (.iload_n 1, 1) := by decide +kernel
theorem d_Ln_peakOf_68 : decode b_Ln_peakOf 68 = .ok (.iaload, 1) := by decide +kernel
theorem d_Ln_peakOf_69 : decode b_Ln_peakOf 69 = .ok (.iaload, 1) := by decide +kernel
theorem d_Ln_peakOf_70 : decode b_Ln_peakOf 70 = .ok (.ireturn, 1) := by decide +kernel
theorem d_Ln_peakOf_71 : decode b_Ln_peakOf 71 = .ok (.aload_n 0, 1) := by decide +kernel
theorem d_Ln_peakOf_72 : decode b_Ln_peakOf 72 = .ok (.getfield 24, 3) := by decide +kernel
theorem d_Ln_peakOf_75 : decode b_Ln_peakOf 75 = .ok (.aload_n 0, 1) := by decide +kernel
theorem d_Ln_peakOf_76 : decode b_Ln_peakOf 76 = .ok (.getfield 18, 3) := by decide +kernel
theorem d_Ln_peakOf_79 : decode b_Ln_peakOf 79 = .ok (.iload_n 1, 1) := by decide +kernel
theorem d_Ln_peakOf_80 : decode b_Ln_peakOf 80 = .ok (.iaload, 1) := by decide +kernel
theorem d_Ln_peakOf_81 : decode b_Ln_peakOf 81 = .ok (.iaload, 1) := by decide +kernel
theorem d_Ln_peakOf_82 : decode b_Ln_peakOf 82 = .ok (.aload_n 0, 1) := by decide +kernel
theorem d_Ln_peakOf_83 : decode b_Ln_peakOf 83 = .ok (.getfield 24, 3) := by decide +kernel
theorem d_Ln_peakOf_86 : decode b_Ln_peakOf 86 = .ok (.aload_n 0, 1) := by decide +kernel
theorem d_Ln_peakOf_87 : decode b_Ln_peakOf 87 = .ok (.getfield 21, 3) := by decide +kernel
theorem d_Ln_peakOf_90 : decode b_Ln_peakOf 90 = .ok (.iload_n 1, 1) := by decide +kernel
theorem d_Ln_peakOf_91 : decode b_Ln_peakOf 91 = .ok (.iaload, 1) := by decide +kernel
theorem d_Ln_peakOf_92 : decode b_Ln_peakOf 92 = .ok (.iaload, 1) := by decide +kernel
theorem d_Ln_peakOf_93 : decode b_Ln_peakOf 93 = .ok (.invokestatic 52, 3) := by decide +kernel
theorem d_Ln_peakOf_96 : decode b_Ln_peakOf 96 = .ok (.ireturn, 1) := by decide +kernel
theorem d_Se_settle_0 : decode b_Se_settle 0 = .ok (.iconst (0), 1) := by decide +kernel
theorem d_Se_settle_1 : decode b_Se_settle 1 = .ok (.istore_n 3, 1) := by decide +kernel
theorem d_Se_settle_2 : decode b_Se_settle 2 = .ok (.iload_n 3, 1) := by decide +kernel
theorem d_Se_settle_3 : decode b_Se_settle 3 = .ok (.aload_n 0, 1) := by decide +kernel
theorem d_Se_settle_4 : decode b_Se_settle 4 = .ok (.getfield 20, 3) := by decide +kernel
theorem d_Se_settle_7 : decode b_Se_settle 7 = .ok (.iload_n 1, 1) := by decide +kernel
theorem d_Se_settle_8 : decode b_Se_settle 8 = .ok (.iaload, 1) := by decide +kernel
theorem d_Se_settle_9 : decode b_Se_settle 9 = .ok (.if_icmp .ge (51), 3) := by decide +kernel
theorem d_Se_settle_12 : decode b_Se_settle 12 = .ok (.aload_n 0, 1) := by decide +kernel
theorem d_Se_settle_13 : decode b_Se_settle 13 = .ok (.getfield 17, 3) := by decide +kernel
theorem d_Se_settle_16 : decode b_Se_settle 16 = .ok (.iload_n 1, 1) := by decide +kernel
theorem d_Se_settle_17 : decode b_Se_settle 17 = .ok (.aaload, 1) := by decide +kernel
theorem d_Se_settle_18 : decode b_Se_settle 18 = .ok (.iload_n 3, 1) := by decide +kernel
theorem d_Se_settle_19 : decode b_Se_settle 19 = .ok (.iaload, 1) := by decide +kernel
theorem d_Se_settle_20 : decode b_Se_settle 20 = .ok (.istore 4, 2) := by decide +kernel
theorem d_Se_settle_22 : decode b_Se_settle 22 = .ok (.aload_n 0, 1) := by decide +kernel
theorem d_Se_settle_23 : decode b_Se_settle 23 = .ok (.getfield 24, 3) := by decide +kernel
theorem d_Se_settle_26 : decode b_Se_settle 26 = .ok (.iload_n 1, 1) := by decide +kernel
theorem d_Se_settle_27 : decode b_Se_settle 27 = .ok (.iload 4, 2) := by decide +kernel
theorem d_Se_settle_29 : decode b_Se_settle 29 = .ok (.iastore, 1) := by decide +kernel
theorem d_Se_settle_30 : decode b_Se_settle 30 = .ok (.aload_n 0, 1) := by decide +kernel
theorem d_Se_settle_31 : decode b_Se_settle 31 = .ok (.getfield 27, 3) := by decide +kernel
theorem d_Se_settle_34 : decode b_Se_settle 34 = .ok (.iload_n 1, 1) := by decide +kernel
theorem d_Se_settle_35 : decode b_Se_settle 35 = .ok (.iload 4, 2) := by decide +kernel
theorem d_Se_settle_37 : decode b_Se_settle 37 = .ok (.iastore, 1) := by decide +kernel
theorem d_Se_settle_38 : decode b_Se_settle 38 = .ok (.aload_n 0, 1) := by decide +kernel
theorem d_Se_settle_39 : decode b_Se_settle 39 = .ok (.iload_n 1, 1) := by decide +kernel
theorem d_Se_settle_40 : decode b_Se_settle 40 = .ok (.iconst (1), 1) := by decide +kernel
theorem d_Se_settle_41 : decode b_Se_settle 41 = .ok (.iadd, 1) := by decide +kernel
theorem d_Se_settle_42 : decode b_Se_settle 42 = .ok (.iload_n 2, 1) := by decide +kernel
theorem d_Se_settle_43 : decode b_Se_settle 43 = .ok (.aload_n 0, 1) := by decide +kernel
theorem d_Se_settle_44 : decode b_Se_settle 44 = .ok (.iload_n 1, 1) := by decide +kernel
theorem d_Se_settle_45 : decode b_Se_settle 45 = .ok (.iload 4, 2) := by decide +kernel
theorem d_Se_settle_47 : decode b_Se_settle 47 = .ok (.invokevirtual 88, 3) := by decide +kernel
theorem d_Se_settle_50 : decode b_Se_settle 50 = .ok (.iadd, 1) := by decide +kernel
theorem d_Se_settle_51 : decode b_Se_settle 51 = .ok (.invokevirtual 59, 3) := by decide +kernel
theorem d_Se_settle_54 : decode b_Se_settle 54 = .ok (.iinc 3 (1), 3) := by decide +kernel
theorem d_Se_settle_57 : decode b_Se_settle 57 = .ok (.goto (-55), 3) := by decide +kernel
theorem d_Se_settle_60 : decode b_Se_settle 60 = .ok (.aload_n 0, 1) := by decide +kernel
theorem d_Se_settle_61 : decode b_Se_settle 61 = .ok (.iload_n 1, 1) := by decide +kernel
theorem d_Se_settle_62 : decode b_Se_settle 62 = .ok (.invokevirtual 56, 3) := by decide +kernel
theorem d_Se_settle_65 : decode b_Se_settle 65 = .ok (.return_, 1) := by decide +kernel
theorem d_Se_costOf_0 : decode b_Se_costOf 0 = .ok (.iload_n 2, 1) := by decide +kernel
theorem d_Se_costOf_1 : decode b_Se_costOf 1 = .ok (.aload_n 0, 1) := by decide +kernel
theorem d_Se_costOf_2 : decode b_Se_costOf 2 = .ok (.getfield 48, 3) := by decide +kernel
theorem d_Se_costOf_5 : decode b_Se_costOf 5 = .ok (.iconst (-1), 1) := by decide +kernel
theorem d_Se_costOf_6 : decode b_Se_costOf 6 = .ok (.invokevirtual 63, 3) := by decide +kernel
theorem d_Se_costOf_9 : decode b_Se_costOf 9 = .ok (.iload_n 1, 1) := by decide +kernel
theorem d_Se_costOf_10 : decode b_Se_costOf 10 = .ok (.iaload, 1) := by decide +kernel
theorem d_Se_costOf_11 : decode b_Se_costOf 11 = .ok (.isub, 1) := by decide +kernel
theorem d_Se_costOf_12 : decode b_Se_costOf 12 = .ok (.invokestatic 92, 3) := by decide +kernel
theorem d_Se_costOf_15 : decode b_Se_costOf 15 = .ok (.istore_n 3, 1) := by decide +kernel
theorem d_Se_costOf_16 : decode b_Se_costOf 16 = .ok (.iload_n 3, 1) := by decide +kernel
theorem d_Se_costOf_17 : decode b_Se_costOf 17 = .ok (.ifCond .ne (7), 3) := by decide +kernel
theorem d_Se_costOf_20 : decode b_Se_costOf 20 = .ok (.iconst (0), 1) := by decide +kernel
theorem d_Se_costOf_21 : decode b_Se_costOf 21 = .ok (.goto (8), 3) := by decide +kernel
theorem d_Se_costOf_24 : decode b_Se_costOf 24 = .ok (.sipush (10000), 3) := by decide +kernel
theorem d_Se_costOf_27 : decode b_Se_costOf 27 = .ok (.iload_n 3, 1) := by decide +kernel
theorem d_Se_costOf_28 : decode b_Se_costOf 28 = .ok (.iadd, 1) := by decide +kernel
theorem d_Se_costOf_29 : decode b_Se_costOf 29 = .ok (.ireturn, 1) := by decide +kernel
theorem d_Se_keep_0 : decode b_Se_keep 0 = .ok (.aload_n 0, 1) := by decide +kernel
theorem d_Se_keep_1 : decode b_Se_keep 1 = .ok (.iload_n 1, 1) := by decide +kernel
theorem d_Se_keep_2 : decode b_Se_keep 2 = .ok (.putfield 34, 3) := by decide +kernel
theorem d_Se_keep_5 : decode b_Se_keep 5 = .ok (.iconst (0), 1) := by decide +kernel
theorem d_Se_keep_6 : decode b_Se_keep 6 = .ok (.istore_n 2, 1) := by decide +kernel
theorem d_Se_keep_7 : decode b_Se_keep 7 = .ok (.iload_n 2, 1) := by decide +kernel
theorem d_Se_keep_8 : decode b_Se_keep 8 = .ok (.aload_n 0, 1) := by decide +kernel
theorem d_Se_keep_9 : decode b_Se_keep 9 = .ok (.getfield 41, 3) := by decide +kernel
theorem d_Se_keep_12 : decode b_Se_keep 12 = .ok (.if_icmp .ge (21), 3) := by decide +kernel
theorem d_Se_keep_15 : decode b_Se_keep 15 = .ok (.aload_n 0, 1) := by decide +kernel
theorem d_Se_keep_16 : decode b_Se_keep 16 = .ok (.getfield 30, 3) := by decide +kernel
theorem d_Se_keep_19 : decode b_Se_keep 19 = .ok (.iload_n 2, 1) := by decide +kernel
theorem d_Se_keep_20 : decode b_Se_keep 20 = .ok (.aload_n 0, 1) := by decide +kernel
theorem d_Se_keep_21 : decode b_Se_keep 21 = .ok (.getfield 24, 3) := by decide +kernel
theorem d_Se_keep_24 : decode b_Se_keep 24 = .ok (.iload_n 2, 1) := by decide +kernel
theorem d_Se_keep_25 : decode b_Se_keep 25 = .ok (.iaload, 1) := by decide +kernel
theorem d_Se_keep_26 : decode b_Se_keep 26 = .ok (.iastore, 1) := by decide +kernel
theorem d_Se_keep_27 : decode b_Se_keep 27 = .ok (.iinc 2 (1), 3) := by decide +kernel
theorem d_Se_keep_30 : decode b_Se_keep 30 = .ok (.goto (-23), 3) := by decide +kernel
theorem d_Se_keep_33 : decode b_Se_keep 33 = .ok (.return_, 1) := by decide +kernel
theorem d_Se_differing_0 : decode b_Se_differing 0 = .ok (.aload_n 0, 1) := by decide +kernel
theorem d_Se_differing_1 : decode b_Se_differing 1 = .ok (.getfield 34, 3) := by decide +kernel
theorem d_Se_differing_4 : decode b_Se_differing 4 = .ok (.sipush (10000), 3) := by decide +kernel
theorem d_Se_differing_7 : decode b_Se_differing 7 = .ok (.idiv, 1) := by decide +kernel
theorem d_Se_differing_8 : decode b_Se_differing 8 = .ok (.ireturn, 1) := by decide +kernel
theorem d_ES_nearestAt_0 : decode b_ES_nearestAt 0 = .ok (.aload_n 0, 1) := by decide +kernel
theorem d_ES_nearestAt_1 : decode b_ES_nearestAt 1 = .ok (.iload_n 2, 1) := by decide +kernel
theorem d_ES_nearestAt_2 : decode b_ES_nearestAt 2 = .ok (.invokevirtual 71, 3) := by decide +kernel
theorem d_ES_nearestAt_5 : decode b_ES_nearestAt 5 = .ok (.ifCond .eq (14), 3) := by decide +kernel
theorem d_ES_nearestAt_8 : decode b_ES_nearestAt 8 = .ok (.aload_n 0, 1) := by decide +kernel
theorem d_ES_nearestAt_9 : decode b_ES_nearestAt 9 = .ok (.getfield 59, 3) := by decide +kernel
theorem d_ES_nearestAt_12 : decode b_ES_nearestAt 12 = .ok (.iload_n 1, 1) := by decide +kernel
theorem d_ES_nearestAt_13 : decode b_ES_nearestAt 13 = .ok (.invokevirtual 175, 3) := by decide +kernel
theorem d_ES_nearestAt_16 : decode b_ES_nearestAt 16 = .ok (.ifCond .ne (7), 3) := by decide +kernel
theorem d_ES_nearestAt_19 : decode b_ES_nearestAt 19 = .ok (.ldc2_w 114, 3) := by decide +kernel
theorem d_ES_nearestAt_22 : decode b_ES_nearestAt 22 = .ok (.lreturn, 1) := by decide +kernel
theorem d_ES_nearestAt_23 : decode b_ES_nearestAt 23 = .ok (.aload_n 0, 1) := by decide +kernel
theorem d_ES_nearestAt_24 : decode b_ES_nearestAt 24 = .ok (.getfield 59, 3) := by decide +kernel
theorem d_ES_nearestAt_27 : decode b_ES_nearestAt 27 = .ok (.iload_n 2, 1) := by decide +kernel
theorem d_ES_nearestAt_28 : decode b_ES_nearestAt 28 = .ok (.invokevirtual 181, 3) := by decide +kernel
theorem d_ES_nearestAt_31 : decode b_ES_nearestAt 31 = .ok (.i2l, 1) := by decide +kernel
theorem d_ES_nearestAt_32 : decode b_ES_nearestAt 32 = .ok (.lreturn, 1) := by decide +kernel
theorem d_Se_foundIn_0 : decode b_Se_foundIn 0 = .ok (.aload_n 0, 1) := by decide +kernel
theorem d_Se_foundIn_1 : decode b_Se_foundIn 1 = .ok (.getfield 30, 3) := by decide +kernel
theorem d_Se_foundIn_4 : decode b_Se_foundIn 4 = .ok (.iload_n 1, 1) := by decide +kernel
theorem d_Se_foundIn_5 : decode b_Se_foundIn 5 = .ok (.iaload, 1) := by decide +kernel
theorem d_Se_foundIn_6 : decode b_Se_foundIn 6 = .ok (.ireturn, 1) := by decide +kernel
theorem d_La_cell_0 : decode b_La_cell 0 = .ok (.iload_n 1, 1) := by decide +kernel
theorem d_La_cell_1 : decode b_La_cell 1 = .ok (.aload_n 0, 1) := by decide +kernel
theorem d_La_cell_2 : decode b_La_cell 2 = .ok (.arraylength, 1) := by decide +kernel
theorem d_La_cell_3 : decode b_La_cell 3 = .ok (.if_icmp .ge (9), 3) := by decide +kernel
theorem d_La_cell_6 : decode b_La_cell 6 = .ok (.aload_n 0, 1) := by decide +kernel
theorem d_La_cell_7 : decode b_La_cell 7 = .ok (.iload_n 1, 1) := by decide +kernel
theorem d_La_cell_8 : decode b_La_cell 8 = .ok (.iaload, 1) := by decide +kernel
theorem d_La_cell_9 : decode b_La_cell 9 = .ok (.goto (4), 3) := by decide +kernel
theorem d_La_cell_12 : decode b_La_cell 12 = .ok (.iconst (0), 1) := by decide +kernel
theorem d_La_cell_13 : decode b_La_cell 13 = .ok (.ireturn, 1) := by decide +kernel
theorem d_La_value_0 : decode b_La_value 0 = .ok (.aload_n 3, 1) := by decide +kernel
theorem d_La_value_1 : decode b_La_value 1 = .ok (.iconst (0), 1) := by decide +kernel
theorem d_La_value_2 : decode b_La_value 2 = .ok (.aload_n 0, 1) := by decide +kernel
theorem d_La_value_3 : decode b_La_value 3 = .ok (.iload_n 1, 1) := by decide +kernel
theorem d_La_value_4 : decode b_La_value 4 = .ok (.iload_n 2, 1) := by decide +kernel
theorem d_La_value_5 : decode b_La_value 5 = .ok (.invokevirtual 7, 3) := by decide +kernel
theorem d_La_value_8 : decode b_La_value 8 = .ok (.lastore, 1) := by decide +kernel
theorem d_La_value_9 : decode b_La_value 9 = .ok (.goto (7), 3) := by decide +kernel
theorem d_La_value_12 : decode b_La_value 12 = .ok (.astore 4, 2) := by decide +kernel
theorem d_La_value_14 : decode b_La_value 14 = .ok (.iconst (1), 1) := by decide +kernel
theorem d_La_value_15 : decode b_La_value 15 = .ok (.ireturn, 1) := by decide +kernel
theorem d_La_value_16 : decode b_La_value 16 = .ok (.iconst (0), 1) := by decide +kernel
theorem d_La_value_17 : decode b_La_value 17 = .ok (.ireturn, 1) := by decide +kernel
theorem d_ES_value_0 : decode b_ES_value 0 = .ok (.iload_n 1, 1) := by decide +kernel
theorem d_ES_value_1 : decode b_ES_value 1 = .ok (.ifCond .lt (20), 3) := by decide +kernel
theorem d_ES_value_4 : decode b_ES_value 4 = .ok (.iload_n 1, 1) := by decide +kernel
theorem d_ES_value_5 : decode b_ES_value 5 = .ok (.iconst (1), 1) := by decide +kernel
theorem d_ES_value_6 : decode b_ES_value 6 = .ok (.aload_n 0, 1) := by decide +kernel
theorem d_ES_value_7 : decode b_ES_value 7 = .ok (.getfield 18, 3) := by decide +kernel
theorem d_ES_value_10 : decode b_ES_value 10 = .ok (.ishl, 1) := by decide +kernel
theorem d_ES_value_11 : decode b_ES_value 11 = .ok (.if_icmp .ge (10), 3) := by decide +kernel
theorem d_ES_value_14 : decode b_ES_value 14 = .ok (.iload_n 2, 1) := by decide +kernel
theorem d_ES_value_15 : decode b_ES_value 15 = .ok (.invokestatic 120, 3) := by decide +kernel
theorem d_ES_value_18 : decode b_ES_value 18 = .ok (.ifCond .ne (7), 3) := by decide +kernel
theorem d_ES_value_21 : decode b_ES_value 21 = .ok (.ldc2_w 114, 3) := by decide +kernel
theorem d_ES_value_24 : decode b_ES_value 24 = .ok (.lreturn, 1) := by decide +kernel
theorem d_ES_value_25 : decode b_ES_value 25 = .ok (.aload_n 0, 1) := by decide +kernel
theorem d_ES_value_26 : decode b_ES_value 26 = .ok (.getfield 50, 3) := by decide +kernel
theorem d_ES_value_29 : decode b_ES_value 29 = .ok (.iload_n 1, 1) := by decide +kernel
theorem d_ES_value_30 : decode b_ES_value 30 = .ok (.invokevirtual 123, 3) := by decide +kernel
theorem d_ES_value_33 : decode b_ES_value 33 = .ok (.aload_n 0, 1) := by decide +kernel
theorem d_ES_value_34 : decode b_ES_value 34 = .ok (.getfield 32, 3) := by decide +kernel
theorem d_ES_value_37 : decode b_ES_value 37 = .ok (.invokevirtual 127, 3) := by decide +kernel
theorem d_ES_value_40 : decode b_ES_value 40 = .ok (.i2l, 1) := by decide +kernel
theorem d_ES_value_41 : decode b_ES_value 41 = .ok (.iload_n 2, 1) := by decide +kernel
theorem d_ES_value_42 : decode b_ES_value 42 = .ok (.invokestatic 130, 3) := by decide +kernel
theorem d_ES_value_45 : decode b_ES_value 45 = .ok (.lreturn, 1) := by decide +kernel
theorem d_ES_isPart_0 : decode b_ES_isPart 0 = .ok (.iload_n 0, 1) := by decide +kernel
theorem d_ES_isPart_1 : decode b_ES_isPart 1 = .ok (.ifCond .eq (8), 3) := by decide +kernel
theorem d_ES_isPart_4 : decode b_ES_isPart 4 = .ok (.iload_n 0, 1) := by decide +kernel
theorem d_ES_isPart_5 : decode b_ES_isPart 5 = .ok (.iconst (1), 1) := by decide +kernel
theorem d_ES_isPart_6 : decode b_ES_isPart 6 = .ok (.if_icmp .ne (7), 3) := by decide +kernel
theorem d_ES_isPart_9 : decode b_ES_isPart 9 = .ok (.iconst (1), 1) := by decide +kernel
theorem d_ES_isPart_10 : decode b_ES_isPart 10 = .ok (.goto (4), 3) := by decide +kernel
theorem d_ES_isPart_13 : decode b_ES_isPart 13 = .ok (.iconst (0), 1) := by decide +kernel
theorem d_ES_isPart_14 : decode b_ES_isPart 14 = .ok (.ireturn, 1) := by decide +kernel
theorem d_ES_told_0 : decode b_ES_told 0 = .ok (.lload_n 2, 1) := by decide +kernel
theorem d_ES_told_1 : decode b_ES_told 1 = .ok (.lconst 0, 1) := by decide +kernel
theorem d_ES_told_2 : decode b_ES_told 2 = .ok (.lcmp, 1) := by decide +kernel
theorem d_ES_told_3 : decode b_ES_told 3 = .ok (.ifCond .gt (13), 3) := by decide +kernel
theorem d_ES_told_6 : decode b_ES_told 6 = .ok (.new 184, 3) := by decide +kernel
theorem d_ES_told_9 : decode b_ES_told 9 = .ok (.dup, 1) := by decide +kernel
theorem d_ES_told_10 : decode b_ES_told 10 = .ok (.ldc 186, 2) := by decide +kernel
theorem d_ES_told_12 : decode b_ES_told 12 = .ok (.invokespecial 188, 3) := by decide +kernel
theorem d_ES_told_15 : decode b_ES_told 15 = .ok (.athrow, 1) := by decide +kernel
theorem d_ES_told_16 : decode b_ES_told 16 = .ok (.lload_n 0, 1) := by decide +kernel
theorem d_ES_told_17 : decode b_ES_told 17 = .ok (.invokestatic 191, 3) := by decide +kernel
theorem d_ES_told_20 : decode b_ES_told 20 = .ok (.lload_n 2, 1) := by decide +kernel
theorem d_ES_told_21 : decode b_ES_told 21 = .ok (.invokestatic 195, 3) := by decide +kernel
theorem d_ES_told_24 : decode b_ES_told 24 = .ok (.lstore 5, 2) := by decide +kernel
theorem d_ES_told_26 : decode b_ES_told 26 = .ok (.lload 5, 2) := by decide +kernel
theorem d_ES_told_28 : decode b_ES_told 28 = .ok (.lconst 0, 1) := by decide +kernel
theorem d_ES_told_29 : decode b_ES_told 29 = .ok (.lcmp, 1) := by decide +kernel
theorem d_ES_told_30 : decode b_ES_told 30 = .ok (.ifCond .gt (7), 3) := by decide +kernel
theorem d_ES_told_33 : decode b_ES_told 33 = .ok (.ldc2_w 114, 3) := by decide +kernel
theorem d_ES_told_36 : decode b_ES_told 36 = .ok (.lreturn, 1) := by decide +kernel
theorem d_ES_told_37 : decode b_ES_told 37 = .ok (.iload 4, 2) := by decide +kernel
theorem d_ES_told_39 : decode b_ES_told 39 = .ok (.ifCond .ne (10), 3) := by decide +kernel
theorem d_ES_told_42 : decode b_ES_told 42 = .ok (.lload_n 0, 1) := by decide +kernel
theorem d_ES_told_43 : decode b_ES_told 43 = .ok (.lload 5, 2) := by decide +kernel
theorem d_ES_told_45 : decode b_ES_told 45 = .ok (.ldiv, 1) := by decide +kernel
theorem d_ES_told_46 : decode b_ES_told 46 = .ok (.goto (7), 3) := by decide +kernel
theorem d_ES_told_49 : decode b_ES_told 49 = .ok (.lload_n 2, 1) := by decide +kernel
theorem d_ES_told_50 : decode b_ES_told 50 = .ok (.lload 5, 2) := by decide +kernel
theorem d_ES_told_52 : decode b_ES_told 52 = .ok (.ldiv, 1) := by decide +kernel
theorem d_ES_told_53 : decode b_ES_told 53 = .ok (.lreturn, 1) := by decide +kernel
theorem d_ES_commonDivisor_0 : decode b_ES_commonDivisor 0 = .ok (.lload_n 0, 1) := by decide +kernel
theorem d_ES_commonDivisor_1 : decode b_ES_commonDivisor 1 = .ok (.lstore 4, 2) := by decide +kernel
theorem d_ES_commonDivisor_3 : decode b_ES_commonDivisor 3 = .ok (.lload_n 2, 1) := by decide +kernel
theorem d_ES_commonDivisor_4 : decode b_ES_commonDivisor 4 = .ok (.lstore 6, 2) := by decide +kernel
theorem d_ES_commonDivisor_6 : decode b_ES_commonDivisor 6 = .ok (.iconst (0), 1) := by decide +kernel
theorem d_ES_commonDivisor_7 : decode b_ES_commonDivisor 7 = .ok (.istore 8, 2) := by decide +kernel
theorem d_ES_commonDivisor_9 : decode b_ES_commonDivisor 9 = .ok (.iload 8, 2) := by decide +kernel
theorem d_ES_commonDivisor_11 : decode b_ES_commonDivisor 11 = .ok (.bipush (100), 2) := by decide +kernel
theorem d_ES_commonDivisor_13 : decode b_ES_commonDivisor 13 = .ok (.if_icmp .ge (31), 3) := by decide +kernel
theorem d_ES_commonDivisor_16 : decode b_ES_commonDivisor 16 = .ok (.lload 6, 2) := by decide +kernel
theorem d_ES_commonDivisor_18 : decode b_ES_commonDivisor 18 = .ok (.lconst 0, 1) := by decide +kernel
theorem d_ES_commonDivisor_19 : decode b_ES_commonDivisor 19 = .ok (.lcmp, 1) := by decide +kernel
theorem d_ES_commonDivisor_20 : decode b_ES_commonDivisor 20 = .ok (.ifCond .eq (24), 3) := by decide +kernel
theorem d_ES_commonDivisor_23 : decode b_ES_commonDivisor 23 = .ok (.lload 4, 2) := by decide +kernel
theorem d_ES_commonDivisor_25 : decode b_ES_commonDivisor 25 = .ok (.lload 6, 2) := by decide +kernel
theorem d_ES_commonDivisor_27 : decode b_ES_commonDivisor 27 = .ok (.lrem, 1) := by decide +kernel
theorem d_ES_commonDivisor_28 : decode b_ES_commonDivisor 28 = .ok (.lstore 9, 2) := by decide +kernel
theorem d_ES_commonDivisor_30 : decode b_ES_commonDivisor 30 = .ok (.lload 6, 2) := by decide +kernel
theorem d_ES_commonDivisor_32 : decode b_ES_commonDivisor 32 = .ok (.lstore 4, 2) := by decide +kernel
theorem d_ES_commonDivisor_34 : decode b_ES_commonDivisor 34 = .ok (.lload 9, 2) := by decide +kernel
theorem d_ES_commonDivisor_36 : decode b_ES_commonDivisor 36 = .ok (.lstore 6, 2) := by decide +kernel
theorem d_ES_commonDivisor_38 : decode b_ES_commonDivisor 38 = .ok (.iinc 8 (1), 3) := by decide +kernel
theorem d_ES_commonDivisor_41 : decode b_ES_commonDivisor 41 = .ok (.goto (-32), 3) := by decide +kernel
theorem d_ES_commonDivisor_44 : decode b_ES_commonDivisor 44 = .ok (.lload 4, 2) := by decide +kernel
theorem d_ES_commonDivisor_46 : decode b_ES_commonDivisor 46 = .ok (.lreturn, 1) := by decide +kernel
theorem d_La_share_0 : decode b_La_share 0 = .ok (.aload 4, 2) := by decide +kernel
theorem d_La_share_2 : decode b_La_share 2 = .ok (.iconst (0), 1) := by decide +kernel
theorem d_La_share_3 : decode b_La_share 3 = .ok (.aload_n 0, 1) := by decide +kernel
theorem d_La_share_4 : decode b_La_share 4 = .ok (.iload_n 1, 1) := by decide +kernel
theorem d_La_share_5 : decode b_La_share 5 = .ok (.iload_n 2, 1) := by decide +kernel
theorem d_La_share_6 : decode b_La_share 6 = .ok (.iload_n 3, 1) := by decide +kernel
theorem d_La_share_7 : decode b_La_share 7 = .ok (.invokevirtual 15, 3) := by decide +kernel
theorem d_La_share_10 : decode b_La_share 10 = .ok (.lastore, 1) := by decide +kernel
theorem d_La_share_11 : decode b_La_share 11 = .ok (.goto (7), 3) := by decide +kernel
theorem d_La_share_14 : decode b_La_share 14 = .ok (.astore 5, 2) := by decide +kernel
theorem d_La_share_16 : decode b_La_share 16 = .ok (.iconst (1), 1) := by decide +kernel
theorem d_La_share_17 : decode b_La_share 17 = .ok (.ireturn, 1) := by decide +kernel
theorem d_La_share_18 : decode b_La_share 18 = .ok (.iconst (0), 1) := by decide +kernel
theorem d_La_share_19 : decode b_La_share 19 = .ok (.ireturn, 1) := by decide +kernel
theorem d_ES_share_0 : decode b_ES_share 0 = .ok (.aload_n 0, 1) := by decide +kernel
theorem d_ES_share_1 : decode b_ES_share 1 = .ok (.iload_n 1, 1) := by decide +kernel
theorem d_ES_share_2 : decode b_ES_share 2 = .ok (.invokevirtual 71, 3) := by decide +kernel
theorem d_ES_share_5 : decode b_ES_share 5 = .ok (.ifCond .eq (17), 3) := by decide +kernel
theorem d_ES_share_8 : decode b_ES_share 8 = .ok (.iload_n 2, 1) := by decide +kernel
theorem d_ES_share_9 : decode b_ES_share 9 = .ok (.invokestatic 134, 3) := by decide +kernel
theorem d_ES_share_12 : decode b_ES_share 12 = .ok (.ifCond .eq (10), 3) := by decide +kernel
theorem d_ES_share_15 : decode b_ES_share 15 = .ok (.iload_n 3, 1) := by decide +kernel
theorem d_ES_share_16 : decode b_ES_share 16 = .ok (.invokestatic 120, 3) := by decide +kernel
theorem d_ES_share_19 : decode b_ES_share 19 = .ok (.ifCond .ne (7), 3) := by decide +kernel
theorem d_ES_share_22 : decode b_ES_share 22 = .ok (.ldc2_w 114, 3) := by decide +kernel
theorem d_ES_share_25 : decode b_ES_share 25 = .ok (.lreturn, 1) := by decide +kernel
theorem d_ES_share_26 : decode b_ES_share 26 = .ok (.aload_n 0, 1) := by decide +kernel
theorem d_ES_share_27 : decode b_ES_share 27 = .ok (.getfield 50, 3) := by decide +kernel
theorem d_ES_share_30 : decode b_ES_share 30 = .ok (.aload_n 0, 1) := by decide +kernel
theorem d_ES_share_31 : decode b_ES_share 31 = .ok (.getfield 41, 3) := by decide +kernel
theorem d_ES_share_34 : decode b_ES_share 34 = .ok (.iload_n 1, 1) := by decide +kernel
theorem d_ES_share_35 : decode b_ES_share 35 = .ok (.invokevirtual 137, 3) := by decide +kernel
theorem d_ES_share_38 : decode b_ES_share 38 = .ok (.iload_n 2, 1) := by decide +kernel
theorem d_ES_share_39 : decode b_ES_share 39 = .ok (.invokevirtual 140, 3) := by decide +kernel
theorem d_ES_share_42 : decode b_ES_share 42 = .ok (.lstore 4, 2) := by decide +kernel
theorem d_ES_share_44 : decode b_ES_share 44 = .ok (.lload 4, 2) := by decide +kernel
theorem d_ES_share_46 : decode b_ES_share 46 = .ok (.aload_n 0, 1) := by decide +kernel
theorem d_ES_share_47 : decode b_ES_share 47 = .ok (.getfield 50, 3) := by decide +kernel
theorem d_ES_share_50 : decode b_ES_share 50 = .ok (.iload_n 2, 1) := by decide +kernel
theorem d_ES_share_51 : decode b_ES_share 51 = .ok (.invokevirtual 144, 3) := by decide +kernel
theorem d_ES_share_54 : decode b_ES_share 54 = .ok (.aload_n 0, 1) := by decide +kernel
theorem d_ES_share_55 : decode b_ES_share 55 = .ok (.getfield 32, 3) := by decide +kernel
theorem d_ES_share_58 : decode b_ES_share 58 = .ok (.invokevirtual 127, 3) := by decide +kernel
theorem d_ES_share_61 : decode b_ES_share 61 = .ok (.i2l, 1) := by decide +kernel
theorem d_ES_share_62 : decode b_ES_share 62 = .ok (.lmul, 1) := by decide +kernel
theorem d_ES_share_63 : decode b_ES_share 63 = .ok (.iload_n 3, 1) := by decide +kernel
theorem d_ES_share_64 : decode b_ES_share 64 = .ok (.invokestatic 130, 3) := by decide +kernel
theorem d_ES_share_67 : decode b_ES_share 67 = .ok (.lreturn, 1) := by decide +kernel
theorem d_ES_isManner_0 : decode b_ES_isManner 0 = .ok (.iload_n 0, 1) := by decide +kernel
theorem d_ES_isManner_1 : decode b_ES_isManner 1 = .ok (.ifCond .eq (8), 3) := by decide +kernel
theorem d_ES_isManner_4 : decode b_ES_isManner 4 = .ok (.iload_n 0, 1) := by decide +kernel
theorem d_ES_isManner_5 : decode b_ES_isManner 5 = .ok (.iconst (1), 1) := by decide +kernel
theorem d_ES_isManner_6 : decode b_ES_isManner 6 = .ok (.if_icmp .ne (7), 3) := by decide +kernel
theorem d_ES_isManner_9 : decode b_ES_isManner 9 = .ok (.iconst (1), 1) := by decide +kernel
theorem d_ES_isManner_10 : decode b_ES_isManner 10 = .ok (.goto (4), 3) := by decide +kernel
theorem d_ES_isManner_13 : decode b_ES_isManner 13 = .ok (.iconst (0), 1) := by decide +kernel
theorem d_ES_isManner_14 : decode b_ES_isManner 14 = .ok (.ireturn, 1) := by decide +kernel
theorem d_Gr_ofColumn_0 : decode b_Gr_ofColumn 0 = .ok (.aload_n 0, 1) := by decide +kernel
theorem d_Gr_ofColumn_1 : decode b_Gr_ofColumn 1 = .ok (.getfield 9, 3) := by decide +kernel
theorem d_Gr_ofColumn_4 : decode b_Gr_ofColumn 4 = .ok (.iload_n 1, 1) := by decide +kernel
theorem d_Gr_ofColumn_5 : decode b_Gr_ofColumn 5 = .ok (.iaload, 1) := by decide +kernel
theorem d_Gr_ofColumn_6 : decode b_Gr_ofColumn 6 = .ok (.ireturn, 1) := by decide +kernel
theorem d_Me_shareWays_0 : decode b_Me_shareWays 0 = .ok (.aload_n 0, 1) := by decide +kernel
theorem d_Me_shareWays_1 : decode b_Me_shareWays 1 = .ok (.getfield 27, 3) := by decide +kernel
theorem d_Me_shareWays_4 : decode b_Me_shareWays 4 = .ok (.invokevirtual 85, 3) := by decide +kernel
theorem d_Me_shareWays_7 : decode b_Me_shareWays 7 = .ok (.istore_n 2, 1) := by decide +kernel
theorem d_Me_shareWays_8 : decode b_Me_shareWays 8 = .ok (.iload_n 1, 1) := by decide +kernel
theorem d_Me_shareWays_9 : decode b_Me_shareWays 9 = .ok (.iconst (1), 1) := by decide +kernel
theorem d_Me_shareWays_10 : decode b_Me_shareWays 10 = .ok (.if_icmp .ne (11), 3) := by decide +kernel
theorem d_Me_shareWays_13 : decode b_Me_shareWays 13 = .ok (.lconst 1, 1) := by decide +kernel
theorem d_Me_shareWays_14 : decode b_Me_shareWays 14 = .ok (.iload_n 2, 1) := by decide +kernel
theorem d_Me_shareWays_15 : decode b_Me_shareWays 15 = .ok (.iconst (1), 1) := by decide +kernel
theorem d_Me_shareWays_16 : decode b_Me_shareWays 16 = .ok (.isub, 1) := by decide +kernel
theorem d_Me_shareWays_17 : decode b_Me_shareWays 17 = .ok (.lshl, 1) := by decide +kernel
theorem d_Me_shareWays_18 : decode b_Me_shareWays 18 = .ok (.goto (7), 3) := by decide +kernel
theorem d_Me_shareWays_21 : decode b_Me_shareWays 21 = .ok (.iload_n 2, 1) := by decide +kernel
theorem d_Me_shareWays_22 : decode b_Me_shareWays 22 = .ok (.invokestatic 86, 3) := by decide +kernel
theorem d_Me_shareWays_25 : decode b_Me_shareWays 25 = .ok (.lreturn, 1) := by decide +kernel
theorem d_La_both_0 : decode b_La_both 0 = .ok (.aload 4, 2) := by decide +kernel
theorem d_La_both_2 : decode b_La_both 2 = .ok (.iconst (0), 1) := by decide +kernel
theorem d_La_both_3 : decode b_La_both 3 = .ok (.aload_n 0, 1) := by decide +kernel
theorem d_La_both_4 : decode b_La_both 4 = .ok (.iload_n 1, 1) := by decide +kernel
theorem d_La_both_5 : decode b_La_both 5 = .ok (.iload_n 2, 1) := by decide +kernel
theorem d_La_both_6 : decode b_La_both 6 = .ok (.iload_n 3, 1) := by decide +kernel
theorem d_La_both_7 : decode b_La_both 7 = .ok (.invokevirtual 19, 3) := by decide +kernel
theorem d_La_both_10 : decode b_La_both 10 = .ok (.lastore, 1) := by decide +kernel
theorem d_La_both_11 : decode b_La_both 11 = .ok (.goto (7), 3) := by decide +kernel
theorem d_La_both_14 : decode b_La_both 14 = .ok (.astore 5, 2) := by decide +kernel
theorem d_La_both_16 : decode b_La_both 16 = .ok (.iconst (1), 1) := by decide +kernel
theorem d_La_both_17 : decode b_La_both 17 = .ok (.ireturn, 1) := by decide +kernel
theorem d_La_both_18 : decode b_La_both 18 = .ok (.iconst (0), 1) := by decide +kernel
theorem d_La_both_19 : decode b_La_both 19 = .ok (.ireturn, 1) := by decide +kernel
theorem d_ES_both_0 : decode b_ES_both 0 = .ok (.aload_n 0, 1) := by decide +kernel
theorem d_ES_both_1 : decode b_ES_both 1 = .ok (.iload_n 1, 1) := by decide +kernel
theorem d_ES_both_2 : decode b_ES_both 2 = .ok (.invokevirtual 71, 3) := by decide +kernel
theorem d_ES_both_5 : decode b_ES_both 5 = .ok (.ifCond .eq (18), 3) := by decide +kernel
theorem d_ES_both_8 : decode b_ES_both 8 = .ok (.aload_n 0, 1) := by decide +kernel
theorem d_ES_both_9 : decode b_ES_both 9 = .ok (.iload_n 2, 1) := by decide +kernel
theorem d_ES_both_10 : decode b_ES_both 10 = .ok (.invokevirtual 71, 3) := by decide +kernel
theorem d_ES_both_13 : decode b_ES_both 13 = .ok (.ifCond .eq (10), 3) := by decide +kernel
theorem d_ES_both_16 : decode b_ES_both 16 = .ok (.iload_n 3, 1) := by decide +kernel
theorem d_ES_both_17 : decode b_ES_both 17 = .ok (.invokestatic 120, 3) := by decide +kernel
theorem d_ES_both_20 : decode b_ES_both 20 = .ok (.ifCond .ne (7), 3) := by decide +kernel
theorem d_ES_both_23 : decode b_ES_both 23 = .ok (.ldc2_w 114, 3) := by decide +kernel
theorem d_ES_both_26 : decode b_ES_both 26 = .ok (.lreturn, 1) := by decide +kernel
theorem d_ES_both_27 : decode b_ES_both 27 = .ok (.aload_n 0, 1) := by decide +kernel
theorem d_ES_both_28 : decode b_ES_both 28 = .ok (.getfield 41, 3) := by decide +kernel
theorem d_ES_both_31 : decode b_ES_both 31 = .ok (.iload_n 1, 1) := by decide +kernel
theorem d_ES_both_32 : decode b_ES_both 32 = .ok (.invokevirtual 137, 3) := by decide +kernel
theorem d_ES_both_35 : decode b_ES_both 35 = .ok (.istore 4, 2) := by decide +kernel
theorem d_ES_both_37 : decode b_ES_both 37 = .ok (.aload_n 0, 1) := by decide +kernel
theorem d_ES_both_38 : decode b_ES_both 38 = .ok (.getfield 41, 3) := by decide +kernel
theorem d_ES_both_41 : decode b_ES_both 41 = .ok (.iload_n 2, 1) := by decide +kernel
theorem d_ES_both_42 : decode b_ES_both 42 = .ok (.invokevirtual 137, 3) := by decide +kernel
theorem d_ES_both_45 : decode b_ES_both 45 = .ok (.istore 5, 2) := by decide +kernel
theorem d_ES_both_47 : decode b_ES_both 47 = .ok (.iload 4, 2) := by decide +kernel
theorem d_ES_both_49 : decode b_ES_both 49 = .ok (.iload 5, 2) := by decide +kernel
theorem d_ES_both_51 : decode b_ES_both 51 = .ok (.if_icmp .ne (7), 3) := by decide +kernel
theorem d_ES_both_54 : decode b_ES_both 54 = .ok (.ldc2_w 114, 3) := by decide +kernel
theorem d_ES_both_57 : decode b_ES_both 57 = .ok (.lreturn, 1) := by decide +kernel
theorem d_ES_both_58 : decode b_ES_both 58 = .ok (.aload_n 0, 1) := by decide +kernel
theorem d_ES_both_59 : decode b_ES_both 59 = .ok (.getfield 50, 3) := by decide +kernel
theorem d_ES_both_62 : decode b_ES_both 62 = .ok (.iload 4, 2) := by decide +kernel
theorem d_ES_both_64 : decode b_ES_both 64 = .ok (.iload 5, 2) := by decide +kernel
theorem d_ES_both_66 : decode b_ES_both 66 = .ok (.invokevirtual 147, 3) := by decide +kernel
theorem d_ES_both_69 : decode b_ES_both 69 = .ok (.aload_n 0, 1) := by decide +kernel
theorem d_ES_both_70 : decode b_ES_both 70 = .ok (.getfield 50, 3) := by decide +kernel
theorem d_ES_both_73 : decode b_ES_both 73 = .ok (.invokevirtual 150, 3) := by decide +kernel
theorem d_ES_both_76 : decode b_ES_both 76 = .ok (.aload_n 0, 1) := by decide +kernel
theorem d_ES_both_77 : decode b_ES_both 77 = .ok (.getfield 32, 3) := by decide +kernel
theorem d_ES_both_80 : decode b_ES_both 80 = .ok (.invokevirtual 127, 3) := by decide +kernel
theorem d_ES_both_83 : decode b_ES_both 83 = .ok (.i2l, 1) := by decide +kernel
theorem d_ES_both_84 : decode b_ES_both 84 = .ok (.lmul, 1) := by decide +kernel
theorem d_ES_both_85 : decode b_ES_both 85 = .ok (.iload_n 3, 1) := by decide +kernel
theorem d_ES_both_86 : decode b_ES_both 86 = .ok (.invokestatic 130, 3) := by decide +kernel
theorem d_ES_both_89 : decode b_ES_both 89 = .ok (.lreturn, 1) := by decide +kernel
theorem d_Me_togetherSum_0 : decode b_Me_togetherSum 0 = .ok (.aload_n 0, 1) := by decide +kernel
theorem d_Me_togetherSum_1 : decode b_Me_togetherSum 1 = .ok (.getfield 27, 3) := by decide +kernel
theorem d_Me_togetherSum_4 : decode b_Me_togetherSum 4 = .ok (.invokevirtual 64, 3) := by decide +kernel
theorem d_Me_togetherSum_7 : decode b_Me_togetherSum 7 = .ok (.iconst (1), 1) := by decide +kernel
theorem d_Me_togetherSum_8 : decode b_Me_togetherSum 8 = .ok (.iload_n 1, 1) := by decide +kernel
theorem d_Me_togetherSum_9 : decode b_Me_togetherSum 9 = .ok (.ishl, 1) := by decide +kernel
theorem d_Me_togetherSum_10 : decode b_Me_togetherSum 10 = .ok (.iconst (-1), 1) := by decide +kernel
theorem d_Me_togetherSum_11 : decode b_Me_togetherSum 11 = .ok (.ixor, 1) := by decide +kernel
theorem d_Me_togetherSum_12 : decode b_Me_togetherSum 12 = .ok (.iand, 1) := by decide +kernel
theorem d_Me_togetherSum_13 : decode b_Me_togetherSum 13 = .ok (.iconst (1), 1) := by decide +kernel
theorem d_Me_togetherSum_14 : decode b_Me_togetherSum 14 = .ok (.iload_n 2, 1) := by decide +kernel
theorem d_Me_togetherSum_15 : decode b_Me_togetherSum 15 = .ok (.ishl, 1) := by decide +kernel
theorem d_Me_togetherSum_16 : decode b_Me_togetherSum 16 = .ok (.iconst (-1), 1) := by decide +kernel
theorem d_Me_togetherSum_17 : decode b_Me_togetherSum 17 = .ok (.ixor, 1) := by decide +kernel
theorem d_Me_togetherSum_18 : decode b_Me_togetherSum 18 = .ok (.iand, 1) := by decide +kernel
theorem d_Me_togetherSum_19 : decode b_Me_togetherSum 19 = .ok (.istore_n 3, 1) := by decide +kernel
theorem d_Me_togetherSum_20 : decode b_Me_togetherSum 20 = .ok (.aload_n 0, 1) := by decide +kernel
theorem d_Me_togetherSum_21 : decode b_Me_togetherSum 21 = .ok (.getfield 27, 3) := by decide +kernel
theorem d_Me_togetherSum_24 : decode b_Me_togetherSum 24 = .ok (.iconst (1), 1) := by decide +kernel
theorem d_Me_togetherSum_25 : decode b_Me_togetherSum 25 = .ok (.iload_n 1, 1) := by decide +kernel
theorem d_Me_togetherSum_26 : decode b_Me_togetherSum 26 = .ok (.ishl, 1) := by decide +kernel
theorem d_Me_togetherSum_27 : decode b_Me_togetherSum 27 = .ok (.invokevirtual 69, 3) := by decide +kernel
theorem d_Me_togetherSum_30 : decode b_Me_togetherSum 30 = .ok (.istore 4, 2) := by decide +kernel
theorem d_Me_togetherSum_32 : decode b_Me_togetherSum 32 = .ok (.aload_n 0, 1) := by decide +kernel
theorem d_Me_togetherSum_33 : decode b_Me_togetherSum 33 = .ok (.getfield 27, 3) := by decide +kernel
theorem d_Me_togetherSum_36 : decode b_Me_togetherSum 36 = .ok (.iconst (1), 1) := by decide +kernel
theorem d_Me_togetherSum_37 : decode b_Me_togetherSum 37 = .ok (.iload_n 2, 1) := by decide +kernel
theorem d_Me_togetherSum_38 : decode b_Me_togetherSum 38 = .ok (.ishl, 1) := by decide +kernel
theorem d_Me_togetherSum_39 : decode b_Me_togetherSum 39 = .ok (.invokevirtual 69, 3) := by decide +kernel
theorem d_Me_togetherSum_42 : decode b_Me_togetherSum 42 = .ok (.istore 5, 2) := by decide +kernel
theorem d_Me_togetherSum_44 : decode b_Me_togetherSum 44 = .ok (.iload_n 3, 1) := by decide +kernel
theorem d_Me_togetherSum_45 : decode b_Me_togetherSum 45 = .ok (.invokestatic 73, 3) := by decide +kernel
theorem d_Me_togetherSum_48 : decode b_Me_togetherSum 48 = .ok (.istore 6, 2) := by decide +kernel
theorem d_Me_togetherSum_50 : decode b_Me_togetherSum 50 = .ok (.lconst 0, 1) := by decide +kernel
theorem d_Me_togetherSum_51 : decode b_Me_togetherSum 51 = .ok (.lstore 7, 2) := by decide +kernel
theorem d_Me_togetherSum_53 : decode b_Me_togetherSum 53 = .ok (.iconst (0), 1) := by decide +kernel
theorem d_Me_togetherSum_54 : decode b_Me_togetherSum 54 = .ok (.istore 9, 2) := by decide +kernel
theorem d_Me_togetherSum_56 : decode b_Me_togetherSum 56 = .ok (.iload 9, 2) := by decide +kernel
theorem d_Me_togetherSum_58 : decode b_Me_togetherSum 58 = .ok (.iload_n 3, 1) := by decide +kernel
theorem d_Me_togetherSum_59 : decode b_Me_togetherSum 59 = .ok (.if_icmp .gt (66), 3) := by decide +kernel
theorem d_Me_togetherSum_62 : decode b_Me_togetherSum 62 = .ok (.iload 9, 2) := by decide +kernel
theorem d_Me_togetherSum_64 : decode b_Me_togetherSum 64 = .ok (.iload_n 3, 1) := by decide +kernel
theorem d_Me_togetherSum_65 : decode b_Me_togetherSum 65 = .ok (.iconst (-1), 1) := by decide +kernel
theorem d_Me_togetherSum_66 : decode b_Me_togetherSum 66 = .ok (.ixor, 1) := by decide +kernel
theorem d_Me_togetherSum_67 : decode b_Me_togetherSum 67 = .ok (.iand, 1) := by decide +kernel
theorem d_Me_togetherSum_68 : decode b_Me_togetherSum 68 = .ok (.ifCond .ne (51), 3) := by decide +kernel
theorem d_Me_togetherSum_71 : decode b_Me_togetherSum 71 = .ok (.aload_n 0, 1) := by decide +kernel
theorem d_Me_togetherSum_72 : decode b_Me_togetherSum 72 = .ok (.getfield 27, 3) := by decide +kernel
theorem d_Me_togetherSum_75 : decode b_Me_togetherSum 75 = .ok (.iload 9, 2) := by decide +kernel
theorem d_Me_togetherSum_77 : decode b_Me_togetherSum 77 = .ok (.invokevirtual 69, 3) := by decide +kernel
theorem d_Me_togetherSum_80 : decode b_Me_togetherSum 80 = .ok (.istore 10, 2) := by decide +kernel
theorem d_Me_togetherSum_82 : decode b_Me_togetherSum 82 = .ok (.aload_n 0, 1) := by decide +kernel
theorem d_Me_togetherSum_83 : decode b_Me_togetherSum 83 = .ok (.iload 10, 2) := by decide +kernel
theorem d_Me_togetherSum_85 : decode b_Me_togetherSum 85 = .ok (.iload 5, 2) := by decide +kernel
theorem d_Me_togetherSum_87 : decode b_Me_togetherSum 87 = .ok (.ior, 1) := by decide +kernel
theorem d_Me_togetherSum_88 : decode b_Me_togetherSum 88 = .ok (.iload 4, 2) := by decide +kernel
theorem d_Me_togetherSum_90 : decode b_Me_togetherSum 90 = .ok (.invokevirtual 82, 3) := by decide +kernel
theorem d_Me_togetherSum_93 : decode b_Me_togetherSum 93 = .ok (.aload_n 0, 1) := by decide +kernel
theorem d_Me_togetherSum_94 : decode b_Me_togetherSum 94 = .ok (.iload 10, 2) := by decide +kernel
theorem d_Me_togetherSum_96 : decode b_Me_togetherSum 96 = .ok (.iload 4, 2) := by decide +kernel
theorem d_Me_togetherSum_98 : decode b_Me_togetherSum 98 = .ok (.invokevirtual 82, 3) := by decide +kernel
theorem d_Me_togetherSum_101 : decode b_Me_togetherSum 101 = .ok (.lsub, 1) := by decide +kernel
theorem d_Me_togetherSum_102 : decode b_Me_togetherSum 102 = .ok (.lstore 11, 2) := by decide +kernel
theorem d_Me_togetherSum_104 : decode b_Me_togetherSum 104 = .ok (.lload 7, 2) := by decide +kernel
theorem d_Me_togetherSum_106 : decode b_Me_togetherSum 106 = .ok (.iload 9, 2) := by decide +kernel
theorem d_Me_togetherSum_108 : decode b_Me_togetherSum 108 = .ok (.iload 6, 2) := by decide +kernel
theorem d_Me_togetherSum_110 : decode b_Me_togetherSum 110 = .ok (.invokestatic 78, 3) := by decide +kernel
theorem d_Me_togetherSum_113 : decode b_Me_togetherSum 113 = .ok (.lload 11, 2) := by decide +kernel
theorem d_Me_togetherSum_115 : decode b_Me_togetherSum 115 = .ok (.lmul, 1) := by decide +kernel
theorem d_Me_togetherSum_116 : decode b_Me_togetherSum 116 = .ok (.ladd, 1) := by decide +kernel
theorem d_Me_togetherSum_117 : decode b_Me_togetherSum 117 = .ok (.lstore 7, 2) := by decide +kernel
theorem d_Me_togetherSum_119 : decode b_Me_togetherSum 119 = .ok (.iinc 9 (1), 3) := by decide +kernel
theorem d_Me_togetherSum_122 : decode b_Me_togetherSum 122 = .ok (.goto (-66), 3) := by decide +kernel
theorem d_Me_togetherSum_125 : decode b_Me_togetherSum 125 = .ok (.lload 7, 2) := by decide +kernel
theorem d_Me_togetherSum_127 : decode b_Me_togetherSum 127 = .ok (.lreturn, 1) := by decide +kernel
theorem d_Me_togetherWays_0 : decode b_Me_togetherWays 0 = .ok (.aload_n 0, 1) := by decide +kernel
theorem d_Me_togetherWays_1 : decode b_Me_togetherWays 1 = .ok (.getfield 27, 3) := by decide +kernel
theorem d_Me_togetherWays_4 : decode b_Me_togetherWays 4 = .ok (.invokevirtual 85, 3) := by decide +kernel
theorem d_Me_togetherWays_7 : decode b_Me_togetherWays 7 = .ok (.iconst (1), 1) := by decide +kernel
theorem d_Me_togetherWays_8 : decode b_Me_togetherWays 8 = .ok (.isub, 1) := by decide +kernel
theorem d_Me_togetherWays_9 : decode b_Me_togetherWays 9 = .ok (.invokestatic 86, 3) := by decide +kernel
theorem d_Me_togetherWays_12 : decode b_Me_togetherWays 12 = .ok (.lreturn, 1) := by decide +kernel
theorem d_La_drawn_0 : decode b_La_drawn 0 = .ok (.aload 5, 2) := by decide +kernel
theorem d_La_drawn_2 : decode b_La_drawn 2 = .ok (.iconst (0), 1) := by decide +kernel
theorem d_La_drawn_3 : decode b_La_drawn 3 = .ok (.aload_n 0, 1) := by decide +kernel
theorem d_La_drawn_4 : decode b_La_drawn 4 = .ok (.iload_n 1, 1) := by decide +kernel
theorem d_La_drawn_5 : decode b_La_drawn 5 = .ok (.iload_n 2, 1) := by decide +kernel
theorem d_La_drawn_6 : decode b_La_drawn 6 = .ok (.iload_n 3, 1) := by decide +kernel
theorem d_La_drawn_7 : decode b_La_drawn 7 = .ok (.iload 4, 2) := by decide +kernel
theorem d_La_drawn_9 : decode b_La_drawn 9 = .ok (.invokevirtual 22, 3) := by decide +kernel
theorem d_La_drawn_12 : decode b_La_drawn 12 = .ok (.lastore, 1) := by decide +kernel
theorem d_La_drawn_13 : decode b_La_drawn 13 = .ok (.goto (7), 3) := by decide +kernel
theorem d_La_drawn_16 : decode b_La_drawn 16 = .ok (.astore 6, 2) := by decide +kernel
theorem d_La_drawn_18 : decode b_La_drawn 18 = .ok (.iconst (1), 1) := by decide +kernel
theorem d_La_drawn_19 : decode b_La_drawn 19 = .ok (.ireturn, 1) := by decide +kernel
theorem d_La_drawn_20 : decode b_La_drawn 20 = .ok (.iconst (0), 1) := by decide +kernel
theorem d_La_drawn_21 : decode b_La_drawn 21 = .ok (.ireturn, 1) := by decide +kernel
theorem d_ES_drawn_0 : decode b_ES_drawn 0 = .ok (.aload_n 0, 1) := by decide +kernel
theorem d_ES_drawn_1 : decode b_ES_drawn 1 = .ok (.iload_n 1, 1) := by decide +kernel
theorem d_ES_drawn_2 : decode b_ES_drawn 2 = .ok (.invokevirtual 71, 3) := by decide +kernel
theorem d_ES_drawn_5 : decode b_ES_drawn 5 = .ok (.ifCond .eq (22), 3) := by decide +kernel
theorem d_ES_drawn_8 : decode b_ES_drawn 8 = .ok (.iload 4, 2) := by decide +kernel
theorem d_ES_drawn_10 : decode b_ES_drawn 10 = .ok (.invokestatic 120, 3) := by decide +kernel
theorem d_ES_drawn_13 : decode b_ES_drawn 13 = .ok (.ifCond .eq (14), 3) := by decide +kernel
theorem d_ES_drawn_16 : decode b_ES_drawn 16 = .ok (.iload_n 3, 1) := by decide +kernel
theorem d_ES_drawn_17 : decode b_ES_drawn 17 = .ok (.iconst (1), 1) := by decide +kernel
theorem d_ES_drawn_18 : decode b_ES_drawn 18 = .ok (.if_icmp .lt (9), 3) := by decide +kernel
theorem d_ES_drawn_21 : decode b_ES_drawn 21 = .ok (.iload_n 3, 1) := by decide +kernel
theorem d_ES_drawn_22 : decode b_ES_drawn 22 = .ok (.bipush (20), 2) := by decide +kernel
theorem d_ES_drawn_24 : decode b_ES_drawn 24 = .ok (.if_icmp .le (7), 3) := by decide +kernel
theorem d_ES_drawn_27 : decode b_ES_drawn 27 = .ok (.ldc2_w 114, 3) := by decide +kernel
theorem d_ES_drawn_30 : decode b_ES_drawn 30 = .ok (.lreturn, 1) := by decide +kernel
theorem d_ES_drawn_31 : decode b_ES_drawn 31 = .ok (.aload_n 0, 1) := by decide +kernel
theorem d_ES_drawn_32 : decode b_ES_drawn 32 = .ok (.getfield 50, 3) := by decide +kernel
theorem d_ES_drawn_35 : decode b_ES_drawn 35 = .ok (.aload_n 0, 1) := by decide +kernel
theorem d_ES_drawn_36 : decode b_ES_drawn 36 = .ok (.getfield 41, 3) := by decide +kernel
theorem d_ES_drawn_39 : decode b_ES_drawn 39 = .ok (.iload_n 1, 1) := by decide +kernel
theorem d_ES_drawn_40 : decode b_ES_drawn 40 = .ok (.invokevirtual 137, 3) := by decide +kernel
theorem d_ES_drawn_43 : decode b_ES_drawn 43 = .ok (.iload_n 2, 1) := by decide +kernel
theorem d_ES_drawn_44 : decode b_ES_drawn 44 = .ok (.iload_n 3, 1) := by decide +kernel
theorem d_ES_drawn_45 : decode b_ES_drawn 45 = .ok (.invokevirtual 154, 3) := by decide +kernel
theorem d_ES_drawn_48 : decode b_ES_drawn 48 = .ok (.lstore 5, 2) := by decide +kernel
theorem d_ES_drawn_50 : decode b_ES_drawn 50 = .ok (.lload 5, 2) := by decide +kernel
theorem d_ES_drawn_52 : decode b_ES_drawn 52 = .ok (.iload_n 3, 1) := by decide +kernel
theorem d_ES_drawn_53 : decode b_ES_drawn 53 = .ok (.i2l, 1) := by decide +kernel
theorem d_ES_drawn_54 : decode b_ES_drawn 54 = .ok (.aload_n 0, 1) := by decide +kernel
theorem d_ES_drawn_55 : decode b_ES_drawn 55 = .ok (.getfield 32, 3) := by decide +kernel
theorem d_ES_drawn_58 : decode b_ES_drawn 58 = .ok (.invokevirtual 127, 3) := by decide +kernel
theorem d_ES_drawn_61 : decode b_ES_drawn 61 = .ok (.i2l, 1) := by decide +kernel
theorem d_ES_drawn_62 : decode b_ES_drawn 62 = .ok (.lmul, 1) := by decide +kernel
theorem d_ES_drawn_63 : decode b_ES_drawn 63 = .ok (.iload 4, 2) := by decide +kernel
theorem d_ES_drawn_65 : decode b_ES_drawn 65 = .ok (.invokestatic 130, 3) := by decide +kernel
theorem d_ES_drawn_68 : decode b_ES_drawn 68 = .ok (.lreturn, 1) := by decide +kernel
theorem d_Me_drawnSum_0 : decode b_Me_drawnSum 0 = .ok (.aload_n 0, 1) := by decide +kernel
theorem d_Me_drawnSum_1 : decode b_Me_drawnSum 1 = .ok (.getfield 27, 3) := by decide +kernel
theorem d_Me_drawnSum_4 : decode b_Me_drawnSum 4 = .ok (.iconst (1), 1) := by decide +kernel
theorem d_Me_drawnSum_5 : decode b_Me_drawnSum 5 = .ok (.iload_n 1, 1) := by decide +kernel
theorem d_Me_drawnSum_6 : decode b_Me_drawnSum 6 = .ok (.ishl, 1) := by decide +kernel
theorem d_Me_drawnSum_7 : decode b_Me_drawnSum 7 = .ok (.invokevirtual 69, 3) := by decide +kernel
theorem d_Me_drawnSum_10 : decode b_Me_drawnSum 10 = .ok (.istore 4, 2) := by decide +kernel
theorem d_Me_drawnSum_12 : decode b_Me_drawnSum 12 = .ok (.lconst 0, 1) := by decide +kernel
theorem d_Me_drawnSum_13 : decode b_Me_drawnSum 13 = .ok (.lstore 5, 2) := by decide +kernel
theorem d_Me_drawnSum_15 : decode b_Me_drawnSum 15 = .ok (.aload_n 0, 1) := by decide +kernel
theorem d_Me_drawnSum_16 : decode b_Me_drawnSum 16 = .ok (.getfield 36, 3) := by decide +kernel
theorem d_Me_drawnSum_19 : decode b_Me_drawnSum 19 = .ok (.iload_n 2, 1) := by decide +kernel
theorem d_Me_drawnSum_20 : decode b_Me_drawnSum 20 = .ok (.invokevirtual 89, 3) := by decide +kernel
theorem d_Me_drawnSum_23 : decode b_Me_drawnSum 23 = .ok (.iconst (0), 1) := by decide +kernel
theorem d_Me_drawnSum_24 : decode b_Me_drawnSum 24 = .ok (.istore 7, 2) := by decide +kernel
theorem d_Me_drawnSum_26 : decode b_Me_drawnSum 26 = .ok (.iload 7, 2) := by decide +kernel
theorem d_Me_drawnSum_28 : decode b_Me_drawnSum 28 = .ok (.iload_n 3, 1) := by decide +kernel
theorem d_Me_drawnSum_29 : decode b_Me_drawnSum 29 = .ok (.if_icmp .ge (42), 3) := by decide +kernel
theorem d_Me_drawnSum_32 : decode b_Me_drawnSum 32 = .ok (.aload_n 0, 1) := by decide +kernel
theorem d_Me_drawnSum_33 : decode b_Me_drawnSum 33 = .ok (.getfield 36, 3) := by decide +kernel
theorem d_Me_drawnSum_36 : decode b_Me_drawnSum 36 = .ok (.invokevirtual 93, 3) := by decide +kernel
theorem d_Me_drawnSum_39 : decode b_Me_drawnSum 39 = .ok (.lload 5, 2) := by decide +kernel
theorem d_Me_drawnSum_41 : decode b_Me_drawnSum 41 = .ok (.aload_n 0, 1) := by decide +kernel
theorem d_Me_drawnSum_42 : decode b_Me_drawnSum 42 = .ok (.aload_n 0, 1) := by decide +kernel
theorem d_Me_drawnSum_43 : decode b_Me_drawnSum 43 = .ok (.getfield 27, 3) := by decide +kernel
theorem d_Me_drawnSum_46 : decode b_Me_drawnSum 46 = .ok (.aload_n 0, 1) := by decide +kernel
theorem d_Me_drawnSum_47 : decode b_Me_drawnSum 47 = .ok (.getfield 36, 3) := by decide +kernel
theorem d_Me_drawnSum_50 : decode b_Me_drawnSum 50 = .ok (.iload_n 1, 1) := by decide +kernel
theorem d_Me_drawnSum_51 : decode b_Me_drawnSum 51 = .ok (.invokevirtual 96, 3) := by decide +kernel
theorem d_Me_drawnSum_54 : decode b_Me_drawnSum 54 = .ok (.invokevirtual 69, 3) := by decide +kernel
theorem d_Me_drawnSum_57 : decode b_Me_drawnSum 57 = .ok (.iload 4, 2) := by decide +kernel
theorem d_Me_drawnSum_59 : decode b_Me_drawnSum 59 = .ok (.invokevirtual 82, 3) := by decide +kernel
theorem d_Me_drawnSum_62 : decode b_Me_drawnSum 62 = .ok (.ladd, 1) := by decide +kernel
theorem d_Me_drawnSum_63 : decode b_Me_drawnSum 63 = .ok (.lstore 5, 2) := by decide +kernel
theorem d_Me_drawnSum_65 : decode b_Me_drawnSum 65 = .ok (.iinc 7 (1), 3) := by decide +kernel
theorem d_Me_drawnSum_68 : decode b_Me_drawnSum 68 = .ok (.goto (-42), 3) := by decide +kernel
theorem d_Me_drawnSum_71 : decode b_Me_drawnSum 71 = .ok (.lload 5, 2) := by decide +kernel
theorem d_Me_drawnSum_73 : decode b_Me_drawnSum 73 = .ok (.lreturn, 1) := by decide +kernel
theorem d_Or_start_0 : decode b_Or_start 0 = .ok (.aload_n 0, 1) := by decide +kernel
theorem d_Or_start_1 : decode b_Or_start 1 = .ok (.iload_n 1, 1) := by decide +kernel
theorem d_Or_start_2 : decode b_Or_start 2 = .ok (.putfield 19, 3) := by decide +kernel
theorem d_Or_start_5 : decode b_Or_start 5 = .ok (.return_, 1) := by decide +kernel
theorem d_Or_drawNext_0 : decode b_Or_drawNext 0 = .ok (.aload_n 0, 1) := by decide +kernel
theorem d_Or_drawNext_1 : decode b_Or_drawNext 1 = .ok (.invokevirtual 26, 3) := by decide +kernel
theorem d_Or_drawNext_4 : decode b_Or_drawNext 4 = .ok (.aload_n 0, 1) := by decide +kernel
theorem d_Or_drawNext_5 : decode b_Or_drawNext 5 = .ok (.getfield 15, 3) := by decide +kernel
theorem d_Or_drawNext_8 : decode b_Or_drawNext 8 = .ok (.iconst (1), 1) := by decide +kernel
theorem d_Or_drawNext_9 : decode b_Or_drawNext 9 = .ok (.isub, 1) := by decide +kernel
theorem d_Or_drawNext_10 : decode b_Or_drawNext 10 = .ok (.istore_n 1, 1) := by decide +kernel
theorem d_Or_drawNext_11 : decode b_Or_drawNext 11 = .ok (.iload_n 1, 1) := by decide +kernel
theorem d_Or_drawNext_12 : decode b_Or_drawNext 12 = .ok (.iconst (1), 1) := by decide +kernel
theorem d_Or_drawNext_13 : decode b_Or_drawNext 13 = .ok (.if_icmp .lt (43), 3) := by decide +kernel
theorem d_Or_drawNext_16 : decode b_Or_drawNext 16 = .ok (.aload_n 0, 1) := by decide +kernel
theorem d_Or_drawNext_17 : decode b_Or_drawNext 17 = .ok (.iload_n 1, 1) := by decide +kernel
theorem d_Or_drawNext_18 : decode b_Or_drawNext 18 = .ok (.iconst (1), 1) := by decide +kernel
theorem d_Or_drawNext_19 : decode b_Or_drawNext 19 = .ok (.iadd, 1) := by decide +kernel
theorem d_Or_drawNext_20 : decode b_Or_drawNext 20 = .ok (.invokevirtual 29, 3) := by decide +kernel
theorem d_Or_drawNext_23 : decode b_Or_drawNext 23 = .ok (.istore_n 2, 1) := by decide +kernel
theorem d_Or_drawNext_24 : decode b_Or_drawNext 24 = .ok (.aload_n 0, 1) := by decide +kernel
theorem d_Or_drawNext_25 : decode b_Or_drawNext 25 = .ok (.getfield 9, 3) := by decide +kernel
theorem d_Or_drawNext_28 : decode b_Or_drawNext 28 = .ok (.iload_n 1, 1) := by decide +kernel
theorem d_Or_drawNext_29 : decode b_Or_drawNext 29 = .ok (.iaload, 1) := by decide +kernel
theorem d_Or_drawNext_30 : decode b_Or_drawNext 30 = .ok (.istore_n 3, 1) := by decide +kernel
theorem d_Or_drawNext_31 : decode b_Or_drawNext 31 = .ok (.aload_n 0, 1) := by decide +kernel
theorem d_Or_drawNext_32 : decode b_Or_drawNext 32 = .ok (.getfield 9, 3) := by decide +kernel
theorem d_Or_drawNext_35 : decode b_Or_drawNext 35 = .ok (.iload_n 1, 1) := by decide +kernel
theorem d_Or_drawNext_36 : decode b_Or_drawNext 36 = .ok (.aload_n 0, 1) := by decide +kernel
theorem d_Or_drawNext_37 : decode b_Or_drawNext 37 = .ok (.getfield 9, 3) := by decide +kernel
theorem d_Or_drawNext_40 : decode b_Or_drawNext 40 = .ok (.iload_n 2, 1) := by decide +kernel
theorem d_Or_drawNext_41 : decode b_Or_drawNext 41 = .ok (.iaload, 1) := by decide +kernel
theorem d_Or_drawNext_42 : decode b_Or_drawNext 42 = .ok (.iastore, 1) := by decide +kernel
theorem d_Or_drawNext_43 : decode b_Or_drawNext 43 = .ok (.aload_n 0, 1) := by decide +kernel
theorem d_Or_drawNext_44 : decode b_Or_drawNext 44 = .ok (.getfield 9, 3) := by decide +kernel
theorem d_Or_drawNext_47 : decode b_Or_drawNext 47 = .ok (.iload_n 2, 1) := by decide +kernel
theorem d_Or_drawNext_48 : decode b_Or_drawNext 48 = .ok (.iload_n 3, 1) := by decide +kernel
theorem d_Or_drawNext_49 : decode b_Or_drawNext 49 = .ok (.iastore, 1) := by decide +kernel
theorem d_Or_drawNext_50 : decode b_Or_drawNext 50 = .ok (.iinc 1 (-1), 3) := by decide +kernel
theorem d_Or_drawNext_53 : decode b_Or_drawNext 53 = .ok (.goto (-42), 3) := by decide +kernel
theorem d_Or_drawNext_56 : decode b_Or_drawNext 56 = .ok (.return_, 1) := by decide +kernel
theorem d_Or_lineUp_0 : decode b_Or_lineUp 0 = .ok (.aload_n 0, 1) := by decide +kernel
theorem d_Or_lineUp_1 : decode b_Or_lineUp 1 = .ok (.getfield 22, 3) := by decide +kernel
theorem d_Or_lineUp_4 : decode b_Or_lineUp 4 = .ok (.invokevirtual 33, 3) := by decide +kernel
theorem d_Or_lineUp_7 : decode b_Or_lineUp 7 = .ok (.istore_n 1, 1) := by decide +kernel
theorem d_Or_lineUp_8 : decode b_Or_lineUp 8 = .ok (.aload_n 0, 1) := by decide +kernel
theorem d_Or_lineUp_9 : decode b_Or_lineUp 9 = .ok (.iconst (0), 1) := by decide +kernel
theorem d_Or_lineUp_10 : decode b_Or_lineUp 10 = .ok (.putfield 15, 3) := by decide +kernel
theorem d_Or_lineUp_13 : decode b_Or_lineUp 13 = .ok (.iconst (0), 1) := by decide +kernel
theorem d_Or_lineUp_14 : decode b_Or_lineUp 14 = .ok (.istore_n 2, 1) := by decide +kernel
theorem d_Or_lineUp_15 : decode b_Or_lineUp 15 = .ok (.iload_n 2, 1) := by decide +kernel
theorem d_Or_lineUp_16 : decode b_Or_lineUp 16 = .ok (.bipush (6), 2) := by decide +kernel
theorem d_Or_lineUp_18 : decode b_Or_lineUp 18 = .ok (.if_icmp .ge (38), 3) := by decide +kernel
theorem d_Or_lineUp_21 : decode b_Or_lineUp 21 = .ok (.iload_n 1, 1) := by decide +kernel
theorem d_Or_lineUp_22 : decode b_Or_lineUp 22 = .ok (.iload_n 2, 1) := by decide +kernel
theorem d_Or_lineUp_23 : decode b_Or_lineUp 23 = .ok (.ishr, 1) := by decide +kernel
theorem d_Or_lineUp_24 : decode b_Or_lineUp 24 = .ok (.iconst (1), 1) := by decide +kernel
theorem d_Or_lineUp_25 : decode b_Or_lineUp 25 = .ok (.iand, 1) := by decide +kernel
theorem d_Or_lineUp_26 : decode b_Or_lineUp 26 = .ok (.iconst (1), 1) := by decide +kernel
theorem d_Or_lineUp_27 : decode b_Or_lineUp 27 = .ok (.if_icmp .ne (23), 3) := by decide +kernel
theorem d_Or_lineUp_30 : decode b_Or_lineUp 30 = .ok (.aload_n 0, 1) := by decide +kernel
theorem d_Or_lineUp_31 : decode b_Or_lineUp 31 = .ok (.getfield 9, 3) := by decide +kernel
theorem d_Or_lineUp_34 : decode b_Or_lineUp 34 = .ok (.aload_n 0, 1) := by decide +kernel
theorem d_Or_lineUp_35 : decode b_Or_lineUp 35 = .ok (.getfield 15, 3) := by decide +kernel
theorem d_Or_lineUp_38 : decode b_Or_lineUp 38 = .ok (.iload_n 2, 1) := by decide +kernel
theorem d_Or_lineUp_39 : decode b_Or_lineUp 39 = .ok (.iastore, 1) := by decide +kernel
theorem d_Or_lineUp_40 : decode b_Or_lineUp 40 = .ok (.aload_n 0, 1) := by decide +kernel
theorem d_Or_lineUp_41 : decode b_Or_lineUp 41 = .ok (.dup, 1) := by decide +kernel
theorem d_Or_lineUp_42 : decode b_Or_lineUp 42 = .ok (.getfield 15, 3) := by decide +kernel
theorem d_Or_lineUp_45 : decode b_Or_lineUp 45 = .ok (.iconst (1), 1) := by decide +kernel
theorem d_Or_lineUp_46 : decode b_Or_lineUp 46 = .ok (.iadd, 1) := by decide +kernel
theorem d_Or_lineUp_47 : decode b_Or_lineUp 47 = .ok (.putfield 15, 3) := by decide +kernel
theorem d_Or_lineUp_50 : decode b_Or_lineUp 50 = .ok (.iinc 2 (1), 3) := by decide +kernel
theorem d_Or_lineUp_53 : decode b_Or_lineUp 53 = .ok (.goto (-38), 3) := by decide +kernel
theorem d_Or_lineUp_56 : decode b_Or_lineUp 56 = .ok (.return_, 1) := by decide +kernel
theorem d_Or_below_0 : decode b_Or_below 0 = .ok (.aload_n 0, 1) := by decide +kernel
theorem d_Or_below_1 : decode b_Or_below 1 = .ok (.aload_n 0, 1) := by decide +kernel
theorem d_Or_below_2 : decode b_Or_below 2 = .ok (.getfield 19, 3) := by decide +kernel
theorem d_Or_below_5 : decode b_Or_below 5 = .ok (.ldc 39, 2) := by decide +kernel
theorem d_Or_below_7 : decode b_Or_below 7 = .ok (.imul, 1) := by decide +kernel
theorem d_Or_below_8 : decode b_Or_below 8 = .ok (.sipush (12345), 3) := by decide +kernel
theorem d_Or_below_11 : decode b_Or_below 11 = .ok (.iadd, 1) := by decide +kernel
theorem d_Or_below_12 : decode b_Or_below 12 = .ok (.putfield 19, 3) := by decide +kernel
theorem d_Or_below_15 : decode b_Or_below 15 = .ok (.iload_n 1, 1) := by decide +kernel
theorem d_Or_below_16 : decode b_Or_below 16 = .ok (.ifCond .le (15), 3) := by decide +kernel
theorem d_Or_below_19 : decode b_Or_below 19 = .ok (.aload_n 0, 1) := by decide +kernel
theorem d_Or_below_20 : decode b_Or_below 20 = .ok (.getfield 19, 3) := by decide +kernel
theorem d_Or_below_23 : decode b_Or_below 23 = .ok (.bipush (16), 2) := by decide +kernel
theorem d_Or_below_25 : decode b_Or_below 25 = .ok (.iushr, 1) := by decide +kernel
theorem d_Or_below_26 : decode b_Or_below 26 = .ok (.iload_n 1, 1) := by decide +kernel
theorem d_Or_below_27 : decode b_Or_below 27 = .ok (.irem, 1) := by decide +kernel
theorem d_Or_below_28 : decode b_Or_below 28 = .ok (.goto (4), 3) := by decide +kernel
theorem d_Or_below_31 : decode b_Or_below 31 = .ok (.iconst (0), 1) := by decide +kernel
theorem d_Or_below_32 : decode b_Or_below 32 = .ok (.ireturn, 1) := by decide +kernel
theorem d_Or_groupsBefore_0 : decode b_Or_groupsBefore 0 = .ok (.iconst (0), 1) := by decide +kernel
theorem d_Or_groupsBefore_1 : decode b_Or_groupsBefore 1 = .ok (.istore_n 2, 1) := by decide +kernel
theorem d_Or_groupsBefore_2 : decode b_Or_groupsBefore 2 = .ok (.iconst (0), 1) := by decide +kernel
theorem d_Or_groupsBefore_3 : decode b_Or_groupsBefore 3 = .ok (.istore_n 3, 1) := by decide +kernel
theorem d_Or_groupsBefore_4 : decode b_Or_groupsBefore 4 = .ok (.iload_n 3, 1) := by decide +kernel
theorem d_Or_groupsBefore_5 : decode b_Or_groupsBefore 5 = .ok (.aload_n 0, 1) := by decide +kernel
theorem d_Or_groupsBefore_6 : decode b_Or_groupsBefore 6 = .ok (.getfield 15, 3) := by decide +kernel
theorem d_Or_groupsBefore_9 : decode b_Or_groupsBefore 9 = .ok (.if_icmp .ge (30), 3) := by decide +kernel
theorem d_Or_groupsBefore_12 : decode b_Or_groupsBefore 12 = .ok (.aload_n 0, 1) := by decide +kernel
theorem d_Or_groupsBefore_13 : decode b_Or_groupsBefore 13 = .ok (.getfield 9, 3) := by decide +kernel
theorem d_Or_groupsBefore_16 : decode b_Or_groupsBefore 16 = .ok (.iload_n 3, 1) := by decide +kernel
theorem d_Or_groupsBefore_17 : decode b_Or_groupsBefore 17 = .ok (.iaload, 1) := by decide +kernel
theorem d_Or_groupsBefore_18 : decode b_Or_groupsBefore 18 = .ok (.iload_n 1, 1) := by decide +kernel
theorem d_Or_groupsBefore_19 : decode b_Or_groupsBefore 19 = .ok (.if_icmp .eq (20), 3) := by decide +kernel
theorem d_Or_groupsBefore_22 : decode b_Or_groupsBefore 22 = .ok (.iload_n 2, 1) := by decide +kernel
theorem d_Or_groupsBefore_23 : decode b_Or_groupsBefore 23 = .ok (.iconst (1), 1) := by decide +kernel
theorem d_Or_groupsBefore_24 : decode b_Or_groupsBefore 24 = .ok (.aload_n 0, 1) := by decide +kernel
theorem d_Or_groupsBefore_25 : decode b_Or_groupsBefore 25 = .ok (.getfield 9, 3) := by decide +kernel
theorem d_Or_groupsBefore_28 : decode b_Or_groupsBefore 28 = .ok (.iload_n 3, 1) := by decide +kernel
theorem d_Or_groupsBefore_29 : decode b_Or_groupsBefore 29 = .ok (.iaload, 1) := by decide +kernel
theorem d_Or_groupsBefore_30 : decode b_Or_groupsBefore 30 = .ok (.ishl, 1) := by decide +kernel
theorem d_Or_groupsBefore_31 : decode b_Or_groupsBefore 31 = .ok (.ior, 1) := by decide +kernel
theorem d_Or_groupsBefore_32 : decode b_Or_groupsBefore 32 = .ok (.istore_n 2, 1) := by decide +kernel
theorem d_Or_groupsBefore_33 : decode b_Or_groupsBefore 33 = .ok (.iinc 3 (1), 3) := by decide +kernel
theorem d_Or_groupsBefore_36 : decode b_Or_groupsBefore 36 = .ok (.goto (-32), 3) := by decide +kernel
theorem d_Or_groupsBefore_39 : decode b_Or_groupsBefore 39 = .ok (.iload_n 2, 1) := by decide +kernel
theorem d_Or_groupsBefore_40 : decode b_Or_groupsBefore 40 = .ok (.ireturn, 1) := by decide +kernel
theorem d_La_partial_0 : decode b_La_partial 0 = .ok (.aload 4, 2) := by decide +kernel
theorem d_La_partial_2 : decode b_La_partial 2 = .ok (.iconst (0), 1) := by decide +kernel
theorem d_La_partial_3 : decode b_La_partial 3 = .ok (.aload_n 0, 1) := by decide +kernel
theorem d_La_partial_4 : decode b_La_partial 4 = .ok (.iload_n 1, 1) := by decide +kernel
theorem d_La_partial_5 : decode b_La_partial 5 = .ok (.iload_n 2, 1) := by decide +kernel
theorem d_La_partial_6 : decode b_La_partial 6 = .ok (.iload_n 3, 1) := by decide +kernel
theorem d_La_partial_7 : decode b_La_partial 7 = .ok (.invokevirtual 26, 3) := by decide +kernel
theorem d_La_partial_10 : decode b_La_partial 10 = .ok (.lastore, 1) := by decide +kernel
theorem d_La_partial_11 : decode b_La_partial 11 = .ok (.goto (7), 3) := by decide +kernel
theorem d_La_partial_14 : decode b_La_partial 14 = .ok (.astore 5, 2) := by decide +kernel
theorem d_La_partial_16 : decode b_La_partial 16 = .ok (.iconst (1), 1) := by decide +kernel
theorem d_La_partial_17 : decode b_La_partial 17 = .ok (.ireturn, 1) := by decide +kernel
theorem d_La_partial_18 : decode b_La_partial 18 = .ok (.iconst (0), 1) := by decide +kernel
theorem d_La_partial_19 : decode b_La_partial 19 = .ok (.ireturn, 1) := by decide +kernel
theorem d_ES_partial_0 : decode b_ES_partial 0 = .ok (.aload_n 0, 1) := by decide +kernel
theorem d_ES_partial_1 : decode b_ES_partial 1 = .ok (.iload_n 1, 1) := by decide +kernel
theorem d_ES_partial_2 : decode b_ES_partial 2 = .ok (.invokevirtual 71, 3) := by decide +kernel
theorem d_ES_partial_5 : decode b_ES_partial 5 = .ok (.ifCond .eq (19), 3) := by decide +kernel
theorem d_ES_partial_8 : decode b_ES_partial 8 = .ok (.iload_n 3, 1) := by decide +kernel
theorem d_ES_partial_9 : decode b_ES_partial 9 = .ok (.invokestatic 120, 3) := by decide +kernel
theorem d_ES_partial_12 : decode b_ES_partial 12 = .ok (.ifCond .eq (12), 3) := by decide +kernel
theorem d_ES_partial_15 : decode b_ES_partial 15 = .ok (.iload_n 2, 1) := by decide +kernel
theorem d_ES_partial_16 : decode b_ES_partial 16 = .ok (.bipush (100), 2) := by decide +kernel
theorem d_ES_partial_18 : decode b_ES_partial 18 = .ok (.invokestatic 63, 3) := by decide +kernel
end
section
theorem d_ES_partial_21 : decode b_ES_partial 21 = .ok (.ifCond .ne (7), 3) := by decide +kernel
theorem d_ES_partial_24 : decode b_ES_partial 24 = .ok (.ldc2_w 114, 3) := by decide +kernel
theorem d_ES_partial_27 : decode b_ES_partial 27 = .ok (.lreturn, 1) := by decide +kernel
theorem d_ES_partial_28 : decode b_ES_partial 28 = .ok (.aload_n 0, 1) := by decide +kernel
theorem d_ES_partial_29 : decode b_ES_partial 29 = .ok (.getfield 50, 3) := by decide +kernel
theorem d_ES_partial_32 : decode b_ES_partial 32 = .ok (.iload_n 1, 1) := by decide +kernel
theorem d_ES_partial_33 : decode b_ES_partial 33 = .ok (.iload_n 2, 1) := by decide +kernel
theorem d_ES_partial_34 : decode b_ES_partial 34 = .ok (.invokevirtual 158, 3) := by decide +kernel
theorem d_ES_partial_37 : decode b_ES_partial 37 = .ok (.aload_n 0, 1) := by decide +kernel
theorem d_ES_partial_38 : decode b_ES_partial 38 = .ok (.getfield 32, 3) := by decide +kernel
theorem d_ES_partial_41 : decode b_ES_partial 41 = .ok (.invokevirtual 127, 3) := by decide +kernel
theorem d_ES_partial_44 : decode b_ES_partial 44 = .ok (.i2l, 1) := by decide +kernel
theorem d_ES_partial_45 : decode b_ES_partial 45 = .ok (.iload_n 3, 1) := by decide +kernel
theorem d_ES_partial_46 : decode b_ES_partial 46 = .ok (.invokestatic 130, 3) := by decide +kernel
theorem d_ES_partial_49 : decode b_ES_partial 49 = .ok (.lreturn, 1) := by decide +kernel
theorem d_Me_replacedSum_0 : decode b_Me_replacedSum 0 = .ok (.lconst 0, 1) := by decide +kernel
theorem d_Me_replacedSum_1 : decode b_Me_replacedSum 1 = .ok (.lstore_n 3, 1) := by decide +kernel
theorem d_Me_replacedSum_2 : decode b_Me_replacedSum 2 = .ok (.iconst (0), 1) := by decide +kernel
theorem d_Me_replacedSum_3 : decode b_Me_replacedSum 3 = .ok (.istore 5, 2) := by decide +kernel
theorem d_Me_replacedSum_5 : decode b_Me_replacedSum 5 = .ok (.iload 5, 2) := by decide +kernel
theorem d_Me_replacedSum_7 : decode b_Me_replacedSum 7 = .ok (.aload_n 0, 1) := by decide +kernel
theorem d_Me_replacedSum_8 : decode b_Me_replacedSum 8 = .ok (.getfield 23, 3) := by decide +kernel
theorem d_Me_replacedSum_11 : decode b_Me_replacedSum 11 = .ok (.invokevirtual 40, 3) := by decide +kernel
theorem d_Me_replacedSum_14 : decode b_Me_replacedSum 14 = .ok (.if_icmp .ge (27), 3) := by decide +kernel
theorem d_Me_replacedSum_17 : decode b_Me_replacedSum 17 = .ok (.lload_n 3, 1) := by decide +kernel
theorem d_Me_replacedSum_18 : decode b_Me_replacedSum 18 = .ok (.aload_n 0, 1) := by decide +kernel
theorem d_Me_replacedSum_19 : decode b_Me_replacedSum 19 = .ok (.aload_n 0, 1) := by decide +kernel
theorem d_Me_replacedSum_20 : decode b_Me_replacedSum 20 = .ok (.getfield 23, 3) := by decide +kernel
theorem d_Me_replacedSum_23 : decode b_Me_replacedSum 23 = .ok (.iload 5, 2) := by decide +kernel
theorem d_Me_replacedSum_25 : decode b_Me_replacedSum 25 = .ok (.invokevirtual 46, 3) := by decide +kernel
theorem d_Me_replacedSum_28 : decode b_Me_replacedSum 28 = .ok (.iload_n 1, 1) := by decide +kernel
theorem d_Me_replacedSum_29 : decode b_Me_replacedSum 29 = .ok (.iload_n 2, 1) := by decide +kernel
theorem d_Me_replacedSum_30 : decode b_Me_replacedSum 30 = .ok (.invokevirtual 99, 3) := by decide +kernel
theorem d_Me_replacedSum_33 : decode b_Me_replacedSum 33 = .ok (.ladd, 1) := by decide +kernel
theorem d_Me_replacedSum_34 : decode b_Me_replacedSum 34 = .ok (.lstore_n 3, 1) := by decide +kernel
theorem d_Me_replacedSum_35 : decode b_Me_replacedSum 35 = .ok (.iinc 5 (1), 3) := by decide +kernel
theorem d_Me_replacedSum_38 : decode b_Me_replacedSum 38 = .ok (.goto (-33), 3) := by decide +kernel
theorem d_Me_replacedSum_41 : decode b_Me_replacedSum 41 = .ok (.lload_n 3, 1) := by decide +kernel
theorem d_Me_replacedSum_42 : decode b_Me_replacedSum 42 = .ok (.lreturn, 1) := by decide +kernel
theorem d_Me_sumWith_0 : decode b_Me_sumWith 0 = .ok (.iconst (0), 1) := by decide +kernel
theorem d_Me_sumWith_1 : decode b_Me_sumWith 1 = .ok (.istore 4, 2) := by decide +kernel
theorem d_Me_sumWith_3 : decode b_Me_sumWith 3 = .ok (.iload 4, 2) := by decide +kernel
theorem d_Me_sumWith_5 : decode b_Me_sumWith 5 = .ok (.bipush (6), 2) := by decide +kernel
theorem d_Me_sumWith_7 : decode b_Me_sumWith 7 = .ok (.if_icmp .ge (30), 3) := by decide +kernel
theorem d_Me_sumWith_10 : decode b_Me_sumWith 10 = .ok (.aload_n 0, 1) := by decide +kernel
theorem d_Me_sumWith_11 : decode b_Me_sumWith 11 = .ok (.getfield 9, 3) := by decide +kernel
theorem d_Me_sumWith_14 : decode b_Me_sumWith 14 = .ok (.iload 4, 2) := by decide +kernel
theorem d_Me_sumWith_16 : decode b_Me_sumWith 16 = .ok (.iload 4, 2) := by decide +kernel
theorem d_Me_sumWith_18 : decode b_Me_sumWith 18 = .ok (.iload_n 2, 1) := by decide +kernel
theorem d_Me_sumWith_19 : decode b_Me_sumWith 19 = .ok (.if_icmp .ne (7), 3) := by decide +kernel
theorem d_Me_sumWith_22 : decode b_Me_sumWith 22 = .ok (.iload_n 3, 1) := by decide +kernel
theorem d_Me_sumWith_23 : decode b_Me_sumWith 23 = .ok (.goto (7), 3) := by decide +kernel
theorem d_Me_sumWith_26 : decode b_Me_sumWith 26 = .ok (.aload_n 1, 1) := by decide +kernel
theorem d_Me_sumWith_27 : decode b_Me_sumWith 27 = .ok (.iload 4, 2) := by decide +kernel
theorem d_Me_sumWith_29 : decode b_Me_sumWith 29 = .ok (.iaload, 1) := by decide +kernel
theorem d_Me_sumWith_30 : decode b_Me_sumWith 30 = .ok (.iastore, 1) := by decide +kernel
theorem d_Me_sumWith_31 : decode b_Me_sumWith 31 = .ok (.iinc 4 (1), 3) := by decide +kernel
theorem d_Me_sumWith_34 : decode b_Me_sumWith 34 = .ok (.goto (-31), 3) := by decide +kernel
theorem d_Me_sumWith_37 : decode b_Me_sumWith 37 = .ok (.aload_n 0, 1) := by decide +kernel
theorem d_Me_sumWith_38 : decode b_Me_sumWith 38 = .ok (.getfield 19, 3) := by decide +kernel
theorem d_Me_sumWith_41 : decode b_Me_sumWith 41 = .ok (.aload_n 0, 1) := by decide +kernel
theorem d_Me_sumWith_42 : decode b_Me_sumWith 42 = .ok (.getfield 9, 3) := by decide +kernel
theorem d_Me_sumWith_45 : decode b_Me_sumWith 45 = .ok (.invokevirtual 54, 3) := by decide +kernel
theorem d_Me_sumWith_48 : decode b_Me_sumWith 48 = .ok (.i2l, 1) := by decide +kernel
theorem d_Me_sumWith_49 : decode b_Me_sumWith 49 = .ok (.lreturn, 1) := by decide +kernel
theorem d_La_worth_0 : decode b_La_worth 0 = .ok (.aload_n 3, 1) := by decide +kernel
theorem d_La_worth_1 : decode b_La_worth 1 = .ok (.iconst (0), 1) := by decide +kernel
theorem d_La_worth_2 : decode b_La_worth 2 = .ok (.aload_n 0, 1) := by decide +kernel
theorem d_La_worth_3 : decode b_La_worth 3 = .ok (.iload_n 1, 1) := by decide +kernel
theorem d_La_worth_4 : decode b_La_worth 4 = .ok (.iload_n 2, 1) := by decide +kernel
theorem d_La_worth_5 : decode b_La_worth 5 = .ok (.invokevirtual 29, 3) := by decide +kernel
theorem d_La_worth_8 : decode b_La_worth 8 = .ok (.lastore, 1) := by decide +kernel
theorem d_La_worth_9 : decode b_La_worth 9 = .ok (.goto (7), 3) := by decide +kernel
theorem d_La_worth_12 : decode b_La_worth 12 = .ok (.astore 4, 2) := by decide +kernel
theorem d_La_worth_14 : decode b_La_worth 14 = .ok (.iconst (1), 1) := by decide +kernel
theorem d_La_worth_15 : decode b_La_worth 15 = .ok (.ireturn, 1) := by decide +kernel
theorem d_La_worth_16 : decode b_La_worth 16 = .ok (.iconst (0), 1) := by decide +kernel
theorem d_La_worth_17 : decode b_La_worth 17 = .ok (.ireturn, 1) := by decide +kernel
theorem d_ES_worth_0 : decode b_ES_worth 0 = .ok (.aload_n 0, 1) := by decide +kernel
theorem d_ES_worth_1 : decode b_ES_worth 1 = .ok (.iload_n 1, 1) := by decide +kernel
theorem d_ES_worth_2 : decode b_ES_worth 2 = .ok (.invokevirtual 71, 3) := by decide +kernel
theorem d_ES_worth_5 : decode b_ES_worth 5 = .ok (.ifCond .eq (10), 3) := by decide +kernel
theorem d_ES_worth_8 : decode b_ES_worth 8 = .ok (.iload_n 2, 1) := by decide +kernel
theorem d_ES_worth_9 : decode b_ES_worth 9 = .ok (.invokestatic 120, 3) := by decide +kernel
theorem d_ES_worth_12 : decode b_ES_worth 12 = .ok (.ifCond .ne (7), 3) := by decide +kernel
theorem d_ES_worth_15 : decode b_ES_worth 15 = .ok (.ldc2_w 114, 3) := by decide +kernel
theorem d_ES_worth_18 : decode b_ES_worth 18 = .ok (.lreturn, 1) := by decide +kernel
theorem d_ES_worth_19 : decode b_ES_worth 19 = .ok (.aload_n 0, 1) := by decide +kernel
theorem d_ES_worth_20 : decode b_ES_worth 20 = .ok (.getfield 50, 3) := by decide +kernel
theorem d_ES_worth_23 : decode b_ES_worth 23 = .ok (.iload_n 1, 1) := by decide +kernel
theorem d_ES_worth_24 : decode b_ES_worth 24 = .ok (.invokevirtual 161, 3) := by decide +kernel
theorem d_ES_worth_27 : decode b_ES_worth 27 = .ok (.aload_n 0, 1) := by decide +kernel
theorem d_ES_worth_28 : decode b_ES_worth 28 = .ok (.getfield 32, 3) := by decide +kernel
theorem d_ES_worth_31 : decode b_ES_worth 31 = .ok (.invokevirtual 127, 3) := by decide +kernel
theorem d_ES_worth_34 : decode b_ES_worth 34 = .ok (.i2l, 1) := by decide +kernel
theorem d_ES_worth_35 : decode b_ES_worth 35 = .ok (.aload_n 0, 1) := by decide +kernel
theorem d_ES_worth_36 : decode b_ES_worth 36 = .ok (.getfield 32, 3) := by decide +kernel
theorem d_ES_worth_39 : decode b_ES_worth 39 = .ok (.invokevirtual 127, 3) := by decide +kernel
theorem d_ES_worth_42 : decode b_ES_worth 42 = .ok (.i2l, 1) := by decide +kernel
theorem d_ES_worth_43 : decode b_ES_worth 43 = .ok (.lmul, 1) := by decide +kernel
theorem d_ES_worth_44 : decode b_ES_worth 44 = .ok (.iload_n 2, 1) := by decide +kernel
theorem d_ES_worth_45 : decode b_ES_worth 45 = .ok (.invokestatic 130, 3) := by decide +kernel
theorem d_ES_worth_48 : decode b_ES_worth 48 = .ok (.lreturn, 1) := by decide +kernel
theorem d_Me_changeSum_0 : decode b_Me_changeSum 0 = .ok (.lconst 0, 1) := by decide +kernel
theorem d_Me_changeSum_1 : decode b_Me_changeSum 1 = .ok (.lstore_n 2, 1) := by decide +kernel
theorem d_Me_changeSum_2 : decode b_Me_changeSum 2 = .ok (.iconst (0), 1) := by decide +kernel
theorem d_Me_changeSum_3 : decode b_Me_changeSum 3 = .ok (.istore 4, 2) := by decide +kernel
theorem d_Me_changeSum_5 : decode b_Me_changeSum 5 = .ok (.iload 4, 2) := by decide +kernel
theorem d_Me_changeSum_7 : decode b_Me_changeSum 7 = .ok (.aload_n 0, 1) := by decide +kernel
theorem d_Me_changeSum_8 : decode b_Me_changeSum 8 = .ok (.getfield 23, 3) := by decide +kernel
theorem d_Me_changeSum_11 : decode b_Me_changeSum 11 = .ok (.invokevirtual 40, 3) := by decide +kernel
theorem d_Me_changeSum_14 : decode b_Me_changeSum 14 = .ok (.if_icmp .ge (84), 3) := by decide +kernel
theorem d_Me_changeSum_17 : decode b_Me_changeSum 17 = .ok (.aload_n 0, 1) := by decide +kernel
theorem d_Me_changeSum_18 : decode b_Me_changeSum 18 = .ok (.getfield 23, 3) := by decide +kernel
theorem d_Me_changeSum_21 : decode b_Me_changeSum 21 = .ok (.iload 4, 2) := by decide +kernel
theorem d_Me_changeSum_23 : decode b_Me_changeSum 23 = .ok (.invokevirtual 46, 3) := by decide +kernel
theorem d_Me_changeSum_26 : decode b_Me_changeSum 26 = .ok (.astore 5, 2) := by decide +kernel
theorem d_Me_changeSum_28 : decode b_Me_changeSum 28 = .ok (.aload_n 0, 1) := by decide +kernel
theorem d_Me_changeSum_29 : decode b_Me_changeSum 29 = .ok (.getfield 19, 3) := by decide +kernel
theorem d_Me_changeSum_32 : decode b_Me_changeSum 32 = .ok (.aload 5, 2) := by decide +kernel
theorem d_Me_changeSum_34 : decode b_Me_changeSum 34 = .ok (.invokevirtual 54, 3) := by decide +kernel
theorem d_Me_changeSum_37 : decode b_Me_changeSum 37 = .ok (.i2l, 1) := by decide +kernel
theorem d_Me_changeSum_38 : decode b_Me_changeSum 38 = .ok (.lstore 6, 2) := by decide +kernel
theorem d_Me_changeSum_40 : decode b_Me_changeSum 40 = .ok (.iconst (0), 1) := by decide +kernel
theorem d_Me_changeSum_41 : decode b_Me_changeSum 41 = .ok (.istore 8, 2) := by decide +kernel
theorem d_Me_changeSum_43 : decode b_Me_changeSum 43 = .ok (.iload 8, 2) := by decide +kernel
theorem d_Me_changeSum_45 : decode b_Me_changeSum 45 = .ok (.aload_n 0, 1) := by decide +kernel
theorem d_Me_changeSum_46 : decode b_Me_changeSum 46 = .ok (.getfield 23, 3) := by decide +kernel
theorem d_Me_changeSum_49 : decode b_Me_changeSum 49 = .ok (.invokevirtual 40, 3) := by decide +kernel
theorem d_Me_changeSum_52 : decode b_Me_changeSum 52 = .ok (.if_icmp .ge (40), 3) := by decide +kernel
theorem d_Me_changeSum_55 : decode b_Me_changeSum 55 = .ok (.aload_n 0, 1) := by decide +kernel
theorem d_Me_changeSum_56 : decode b_Me_changeSum 56 = .ok (.aload 5, 2) := by decide +kernel
theorem d_Me_changeSum_58 : decode b_Me_changeSum 58 = .ok (.iload_n 1, 1) := by decide +kernel
theorem d_Me_changeSum_59 : decode b_Me_changeSum 59 = .ok (.aload_n 0, 1) := by decide +kernel
theorem d_Me_changeSum_60 : decode b_Me_changeSum 60 = .ok (.getfield 23, 3) := by decide +kernel
theorem d_Me_changeSum_63 : decode b_Me_changeSum 63 = .ok (.iload 8, 2) := by decide +kernel
theorem d_Me_changeSum_65 : decode b_Me_changeSum 65 = .ok (.invokevirtual 46, 3) := by decide +kernel
theorem d_Me_changeSum_68 : decode b_Me_changeSum 68 = .ok (.iload_n 1, 1) := by decide +kernel
theorem d_Me_changeSum_69 : decode b_Me_changeSum 69 = .ok (.iaload, 1) := by decide +kernel
theorem d_Me_changeSum_70 : decode b_Me_changeSum 70 = .ok (.invokevirtual 99, 3) := by decide +kernel
theorem d_Me_changeSum_73 : decode b_Me_changeSum 73 = .ok (.lload 6, 2) := by decide +kernel
theorem d_Me_changeSum_75 : decode b_Me_changeSum 75 = .ok (.lsub, 1) := by decide +kernel
theorem d_Me_changeSum_76 : decode b_Me_changeSum 76 = .ok (.lstore 9, 2) := by decide +kernel
theorem d_Me_changeSum_78 : decode b_Me_changeSum 78 = .ok (.lload_n 2, 1) := by decide +kernel
theorem d_Me_changeSum_79 : decode b_Me_changeSum 79 = .ok (.lload 9, 2) := by decide +kernel
theorem d_Me_changeSum_81 : decode b_Me_changeSum 81 = .ok (.lload 9, 2) := by decide +kernel
theorem d_Me_changeSum_83 : decode b_Me_changeSum 83 = .ok (.lmul, 1) := by decide +kernel
theorem d_Me_changeSum_84 : decode b_Me_changeSum 84 = .ok (.ladd, 1) := by decide +kernel
theorem d_Me_changeSum_85 : decode b_Me_changeSum 85 = .ok (.lstore_n 2, 1) := by decide +kernel
theorem d_Me_changeSum_86 : decode b_Me_changeSum 86 = .ok (.iinc 8 (1), 3) := by decide +kernel
theorem d_Me_changeSum_89 : decode b_Me_changeSum 89 = .ok (.goto (-46), 3) := by decide +kernel
theorem d_Me_changeSum_92 : decode b_Me_changeSum 92 = .ok (.iinc 4 (1), 3) := by decide +kernel
theorem d_Me_changeSum_95 : decode b_Me_changeSum 95 = .ok (.goto (-90), 3) := by decide +kernel
theorem d_Me_changeSum_98 : decode b_Me_changeSum 98 = .ok (.lload_n 2, 1) := by decide +kernel
theorem d_Me_changeSum_99 : decode b_Me_changeSum 99 = .ok (.lreturn, 1) := by decide +kernel
theorem d_Md_init_0 : decode b_Md_init 0 = .ok (.aload_n 0, 1) := by decide +kernel
theorem d_Md_init_1 : decode b_Md_init 1 = .ok (.invokespecial 1, 3) := by decide +kernel
theorem d_Md_init_4 : decode b_Md_init 4 = .ok (.aload_n 0, 1) := by decide +kernel
theorem d_Md_init_5 : decode b_Md_init 5 = .ok (.bipush (30), 2) := by decide +kernel
theorem d_Md_init_7 : decode b_Md_init 7 = .ok (.newarray .boolean, 2) := by decide +kernel
theorem d_Md_init_9 : decode b_Md_init 9 = .ok (.putfield 7, 3) := by decide +kernel
theorem d_Md_init_12 : decode b_Md_init 12 = .ok (.aload_n 0, 1) := by decide +kernel
theorem d_Md_init_13 : decode b_Md_init 13 = .ok (.bipush (30), 2) := by decide +kernel
theorem d_Md_init_15 : decode b_Md_init 15 = .ok (.newarray .int, 2) := by decide +kernel
theorem d_Md_init_17 : decode b_Md_init 17 = .ok (.putfield 13, 3) := by decide +kernel
theorem d_Md_init_20 : decode b_Md_init 20 = .ok (.aload_n 0, 1) := by decide +kernel
theorem d_Md_init_21 : decode b_Md_init 21 = .ok (.bipush (30), 2) := by decide +kernel
theorem d_Md_init_23 : decode b_Md_init 23 = .ok (.newarray .int, 2) := by decide +kernel
theorem d_Md_init_25 : decode b_Md_init 25 = .ok (.putfield 17, 3) := by decide +kernel
theorem d_Md_init_28 : decode b_Md_init 28 = .ok (.aload_n 0, 1) := by decide +kernel
theorem d_Md_init_29 : decode b_Md_init 29 = .ok (.bipush (30), 2) := by decide +kernel
theorem d_Md_init_31 : decode b_Md_init 31 = .ok (.newarray .int, 2) := by decide +kernel
theorem d_Md_init_33 : decode b_Md_init 33 = .ok (.putfield 20, 3) := by decide +kernel
theorem d_Md_init_36 : decode b_Md_init 36 = .ok (.aload_n 0, 1) := by decide +kernel
theorem d_Md_init_37 : decode b_Md_init 37 = .ok (.bipush (30), 2) := by decide +kernel
theorem d_Md_init_39 : decode b_Md_init 39 = .ok (.newarray .int, 2) := by decide +kernel
theorem d_Md_init_41 : decode b_Md_init 41 = .ok (.putfield 23, 3) := by decide +kernel
theorem d_Md_init_44 : decode b_Md_init 44 = .ok (.aload_n 0, 1) := by decide +kernel
theorem d_Md_init_45 : decode b_Md_init 45 = .ok (.iconst (4), 1) := by decide +kernel
theorem d_Md_init_46 : decode b_Md_init 46 = .ok (.newarray .int, 2) := by decide +kernel
theorem d_Md_init_48 : decode b_Md_init 48 = .ok (.putfield 26, 3) := by decide +kernel
theorem d_Md_init_51 : decode b_Md_init 51 = .ok (.aload_n 0, 1) := by decide +kernel
theorem d_Md_init_52 : decode b_Md_init 52 = .ok (.bipush (6), 2) := by decide +kernel
theorem d_Md_init_54 : decode b_Md_init 54 = .ok (.newarray .int, 2) := by decide +kernel
theorem d_Md_init_56 : decode b_Md_init 56 = .ok (.putfield 29, 3) := by decide +kernel
theorem d_Md_init_59 : decode b_Md_init 59 = .ok (.aload_n 0, 1) := by decide +kernel
theorem d_Md_init_60 : decode b_Md_init 60 = .ok (.bipush (6), 2) := by decide +kernel
theorem d_Md_init_62 : decode b_Md_init 62 = .ok (.newarray .int, 2) := by decide +kernel
theorem d_Md_init_64 : decode b_Md_init 64 = .ok (.putfield 32, 3) := by decide +kernel
theorem d_Md_init_67 : decode b_Md_init 67 = .ok (.aload_n 0, 1) := by decide +kernel
theorem d_Md_init_68 : decode b_Md_init 68 = .ok (.bipush (6), 2) := by decide +kernel
theorem d_Md_init_70 : decode b_Md_init 70 = .ok (.newarray .boolean, 2) := by decide +kernel
theorem d_Md_init_72 : decode b_Md_init 72 = .ok (.putfield 35, 3) := by decide +kernel
theorem d_Md_init_75 : decode b_Md_init 75 = .ok (.aload_n 0, 1) := by decide +kernel
theorem d_Md_init_76 : decode b_Md_init 76 = .ok (.bipush (36), 2) := by decide +kernel
theorem d_Md_init_78 : decode b_Md_init 78 = .ok (.newarray .int, 2) := by decide +kernel
theorem d_Md_init_80 : decode b_Md_init 80 = .ok (.putfield 38, 3) := by decide +kernel
theorem d_Md_init_83 : decode b_Md_init 83 = .ok (.aload_n 0, 1) := by decide +kernel
theorem d_Md_init_84 : decode b_Md_init 84 = .ok (.bipush (6), 2) := by decide +kernel
theorem d_Md_init_86 : decode b_Md_init 86 = .ok (.newarray .int, 2) := by decide +kernel
theorem d_Md_init_88 : decode b_Md_init 88 = .ok (.putfield 41, 3) := by decide +kernel
theorem d_Md_init_91 : decode b_Md_init 91 = .ok (.aload_n 0, 1) := by decide +kernel
theorem d_Md_init_92 : decode b_Md_init 92 = .ok (.bipush (64), 2) := by decide +kernel
theorem d_Md_init_94 : decode b_Md_init 94 = .ok (.newarray .long, 2) := by decide +kernel
theorem d_Md_init_96 : decode b_Md_init 96 = .ok (.putfield 44, 3) := by decide +kernel
theorem d_Md_init_99 : decode b_Md_init 99 = .ok (.aload_n 0, 1) := by decide +kernel
theorem d_Md_init_100 : decode b_Md_init 100 = .ok (.bipush (6), 2) := by decide +kernel
theorem d_Md_init_102 : decode b_Md_init 102 = .ok (.newarray .int, 2) := by decide +kernel
theorem d_Md_init_104 : decode b_Md_init 104 = .ok (.putfield 48, 3) := by decide +kernel
theorem d_Md_init_107 : decode b_Md_init 107 = .ok (.aload_n 0, 1) := by decide +kernel
theorem d_Md_init_108 : decode b_Md_init 108 = .ok (.bipush (6), 2) := by decide +kernel
theorem d_Md_init_110 : decode b_Md_init 110 = .ok (.newarray .int, 2) := by decide +kernel
theorem d_Md_init_112 : decode b_Md_init 112 = .ok (.putfield 51, 3) := by decide +kernel
theorem d_Md_init_115 : decode b_Md_init 115 = .ok (.aload_n 0, 1) := by decide +kernel
theorem d_Md_init_116 : decode b_Md_init 116 = .ok (.bipush (6), 2) := by decide +kernel
theorem d_Md_init_118 : decode b_Md_init 118 = .ok (.newarray .long, 2) := by decide +kernel
theorem d_Md_init_120 : decode b_Md_init 120 = .ok (.putfield 54, 3) := by decide +kernel
theorem d_Md_init_123 : decode b_Md_init 123 = .ok (.aload_n 0, 1) := by decide +kernel
theorem d_Md_init_124 : decode b_Md_init 124 = .ok (.bipush (6), 2) := by decide +kernel
theorem d_Md_init_126 : decode b_Md_init 126 = .ok (.newarray .int, 2) := by decide +kernel
theorem d_Md_init_128 : decode b_Md_init 128 = .ok (.putfield 57, 3) := by decide +kernel
theorem d_Md_init_131 : decode b_Md_init 131 = .ok (.aload_n 0, 1) := by decide +kernel
theorem d_Md_init_132 : decode b_Md_init 132 = .ok (.bipush (6), 2) := by decide +kernel
theorem d_Md_init_134 : decode b_Md_init 134 = .ok (.newarray .int, 2) := by decide +kernel
theorem d_Md_init_136 : decode b_Md_init 136 = .ok (.putfield 60, 3) := by decide +kernel
theorem d_Md_init_139 : decode b_Md_init 139 = .ok (.aload_n 0, 1) := by decide +kernel
theorem d_Md_init_140 : decode b_Md_init 140 = .ok (.iload_n 1, 1) := by decide +kernel
theorem d_Md_init_141 : decode b_Md_init 141 = .ok (.iconst (1), 1) := by decide +kernel
theorem d_Md_init_142 : decode b_Md_init 142 = .ok (.if_icmp .ge (7), 3) := by decide +kernel
theorem d_Md_init_145 : decode b_Md_init 145 = .ok (.iconst (1), 1) := by decide +kernel
theorem d_Md_init_146 : decode b_Md_init 146 = .ok (.goto (15), 3) := by decide +kernel
theorem d_Md_init_149 : decode b_Md_init 149 = .ok (.iload_n 1, 1) := by decide +kernel
theorem d_Md_init_150 : decode b_Md_init 150 = .ok (.bipush (6), 2) := by decide +kernel
theorem d_Md_init_152 : decode b_Md_init 152 = .ok (.if_icmp .le (8), 3) := by decide +kernel
theorem d_Md_init_155 : decode b_Md_init 155 = .ok (.bipush (6), 2) := by decide +kernel
theorem d_Md_init_157 : decode b_Md_init 157 = .ok (.goto (4), 3) := by decide +kernel
theorem d_Md_init_160 : decode b_Md_init 160 = .ok (.iload_n 1, 1) := by decide +kernel
theorem d_Md_init_161 : decode b_Md_init 161 = .ok (.putfield 63, 3) := by decide +kernel
theorem d_Md_init_164 : decode b_Md_init 164 = .ok (.aload_n 0, 1) := by decide +kernel
theorem d_Md_init_165 : decode b_Md_init 165 = .ok (.invokevirtual 67, 3) := by decide +kernel
theorem d_Md_init_168 : decode b_Md_init 168 = .ok (.pop, 1) := by decide +kernel
theorem d_Md_init_169 : decode b_Md_init 169 = .ok (.return_, 1) := by decide +kernel
theorem d_Md_clear_0 : decode b_Md_clear 0 = .ok (.aload_n 0, 1) := by decide +kernel
theorem d_Md_clear_1 : decode b_Md_clear 1 = .ok (.iconst (0), 1) := by decide +kernel
theorem d_Md_clear_2 : decode b_Md_clear 2 = .ok (.putfield 71, 3) := by decide +kernel
theorem d_Md_clear_5 : decode b_Md_clear 5 = .ok (.aload_n 0, 1) := by decide +kernel
theorem d_Md_clear_6 : decode b_Md_clear 6 = .ok (.getfield 78, 3) := by decide +kernel
theorem d_Md_clear_9 : decode b_Md_clear 9 = .ok (.istore_n 1, 1) := by decide +kernel
theorem d_Md_clear_10 : decode b_Md_clear 10 = .ok (.aload_n 0, 1) := by decide +kernel
theorem d_Md_clear_11 : decode b_Md_clear 11 = .ok (.iconst (0), 1) := by decide +kernel
theorem d_Md_clear_12 : decode b_Md_clear 12 = .ok (.putfield 78, 3) := by decide +kernel
theorem d_Md_clear_15 : decode b_Md_clear 15 = .ok (.aload_n 0, 1) := by decide +kernel
theorem d_Md_clear_16 : decode b_Md_clear 16 = .ok (.iconst (0), 1) := by decide +kernel
theorem d_Md_clear_17 : decode b_Md_clear 17 = .ok (.putfield 85, 3) := by decide +kernel
theorem d_Md_clear_20 : decode b_Md_clear 20 = .ok (.aload_n 0, 1) := by decide +kernel
theorem d_Md_clear_21 : decode b_Md_clear 21 = .ok (.iconst (0), 1) := by decide +kernel
theorem d_Md_clear_22 : decode b_Md_clear 22 = .ok (.putfield 88, 3) := by decide +kernel
theorem d_Md_clear_25 : decode b_Md_clear 25 = .ok (.iconst (0), 1) := by decide +kernel
theorem d_Md_clear_26 : decode b_Md_clear 26 = .ok (.istore_n 2, 1) := by decide +kernel
theorem d_Md_clear_27 : decode b_Md_clear 27 = .ok (.iload_n 2, 1) := by decide +kernel
theorem d_Md_clear_28 : decode b_Md_clear 28 = .ok (.bipush (6), 2) := by decide +kernel
theorem d_Md_clear_30 : decode b_Md_clear 30 = .ok (.if_icmp .ge (37), 3) := by decide +kernel
theorem d_Md_clear_33 : decode b_Md_clear 33 = .ok (.aload_n 0, 1) := by decide +kernel
theorem d_Md_clear_34 : decode b_Md_clear 34 = .ok (.getfield 29, 3) := by decide +kernel
theorem d_Md_clear_37 : decode b_Md_clear 37 = .ok (.iload_n 2, 1) := by decide +kernel
theorem d_Md_clear_38 : decode b_Md_clear 38 = .ok (.iconst (0), 1) := by decide +kernel
theorem d_Md_clear_39 : decode b_Md_clear 39 = .ok (.iastore, 1) := by decide +kernel
theorem d_Md_clear_40 : decode b_Md_clear 40 = .ok (.aload_n 0, 1) := by decide +kernel
theorem d_Md_clear_41 : decode b_Md_clear 41 = .ok (.getfield 38, 3) := by decide +kernel
theorem d_Md_clear_44 : decode b_Md_clear 44 = .ok (.iload_n 2, 1) := by decide +kernel
theorem d_Md_clear_45 : decode b_Md_clear 45 = .ok (.iconst (0), 1) := by decide +kernel
theorem d_Md_clear_46 : decode b_Md_clear 46 = .ok (.iastore, 1) := by decide +kernel
theorem d_Md_clear_47 : decode b_Md_clear 47 = .ok (.aload_n 0, 1) := by decide +kernel
theorem d_Md_clear_48 : decode b_Md_clear 48 = .ok (.getfield 32, 3) := by decide +kernel
theorem d_Md_clear_51 : decode b_Md_clear 51 = .ok (.iload_n 2, 1) := by decide +kernel
theorem d_Md_clear_52 : decode b_Md_clear 52 = .ok (.iload_n 2, 1) := by decide +kernel
theorem d_Md_clear_53 : decode b_Md_clear 53 = .ok (.iastore, 1) := by decide +kernel
theorem d_Md_clear_54 : decode b_Md_clear 54 = .ok (.aload_n 0, 1) := by decide +kernel
theorem d_Md_clear_55 : decode b_Md_clear 55 = .ok (.getfield 35, 3) := by decide +kernel
theorem d_Md_clear_58 : decode b_Md_clear 58 = .ok (.iload_n 2, 1) := by decide +kernel
theorem d_Md_clear_59 : decode b_Md_clear 59 = .ok (.iconst (0), 1) := by decide +kernel
theorem d_Md_clear_60 : decode b_Md_clear 60 = .ok (.bastore, 1) := by decide +kernel
theorem d_Md_clear_61 : decode b_Md_clear 61 = .ok (.iinc 2 (1), 3) := by decide +kernel
theorem d_Md_clear_64 : decode b_Md_clear 64 = .ok (.goto (-37), 3) := by decide +kernel
theorem d_Md_clear_67 : decode b_Md_clear 67 = .ok (.iload_n 1, 1) := by decide +kernel
theorem d_Md_clear_68 : decode b_Md_clear 68 = .ok (.ireturn, 1) := by decide +kernel
theorem d_Md_thrown_0 : decode b_Md_thrown 0 = .ok (.aload_n 0, 1) := by decide +kernel
theorem d_Md_thrown_1 : decode b_Md_thrown 1 = .ok (.getfield 71, 3) := by decide +kernel
theorem d_Md_thrown_4 : decode b_Md_thrown 4 = .ok (.ireturn, 1) := by decide +kernel
theorem d_Md_leaf_0 : decode b_Md_leaf 0 = .ok (.aload_n 0, 1) := by decide +kernel
theorem d_Md_leaf_1 : decode b_Md_leaf 1 = .ok (.iconst (0), 1) := by decide +kernel
theorem d_Md_leaf_2 : decode b_Md_leaf 2 = .ok (.putfield 71, 3) := by decide +kernel
theorem d_Md_leaf_5 : decode b_Md_leaf 5 = .ok (.iload_n 1, 1) := by decide +kernel
theorem d_Md_leaf_6 : decode b_Md_leaf 6 = .ok (.sipush (-1000), 3) := by decide +kernel
theorem d_Md_leaf_9 : decode b_Md_leaf 9 = .ok (.sipush (1000), 3) := by decide +kernel
theorem d_Md_leaf_12 : decode b_Md_leaf 12 = .ok (.invokestatic 74, 3) := by decide +kernel
theorem d_Md_leaf_15 : decode b_Md_leaf 15 = .ok (.ifCond .ne (6), 3) := by decide +kernel
theorem d_Md_leaf_18 : decode b_Md_leaf 18 = .ok (.bipush (-2), 2) := by decide +kernel
theorem d_Md_leaf_20 : decode b_Md_leaf 20 = .ok (.ireturn, 1) := by decide +kernel
theorem d_Md_leaf_21 : decode b_Md_leaf 21 = .ok (.aload_n 0, 1) := by decide +kernel
theorem d_Md_leaf_22 : decode b_Md_leaf 22 = .ok (.getfield 78, 3) := by decide +kernel
theorem d_Md_leaf_25 : decode b_Md_leaf 25 = .ok (.bipush (30), 2) := by decide +kernel
theorem d_Md_leaf_27 : decode b_Md_leaf 27 = .ok (.if_icmp .ne (6), 3) := by decide +kernel
theorem d_Md_leaf_30 : decode b_Md_leaf 30 = .ok (.bipush (-4), 2) := by decide +kernel
theorem d_Md_leaf_32 : decode b_Md_leaf 32 = .ok (.ireturn, 1) := by decide +kernel
theorem d_Md_leaf_33 : decode b_Md_leaf 33 = .ok (.aload_n 0, 1) := by decide +kernel
theorem d_Md_leaf_34 : decode b_Md_leaf 34 = .ok (.getfield 7, 3) := by decide +kernel
theorem d_Md_leaf_37 : decode b_Md_leaf 37 = .ok (.aload_n 0, 1) := by decide +kernel
theorem d_Md_leaf_38 : decode b_Md_leaf 38 = .ok (.getfield 78, 3) := by decide +kernel
theorem d_Md_leaf_41 : decode b_Md_leaf 41 = .ok (.iconst (1), 1) := by decide +kernel
theorem d_Md_leaf_42 : decode b_Md_leaf 42 = .ok (.bastore, 1) := by decide +kernel
theorem d_Md_leaf_43 : decode b_Md_leaf 43 = .ok (.aload_n 0, 1) := by decide +kernel
theorem d_Md_leaf_44 : decode b_Md_leaf 44 = .ok (.getfield 13, 3) := by decide +kernel
theorem d_Md_leaf_47 : decode b_Md_leaf 47 = .ok (.aload_n 0, 1) := by decide +kernel
theorem d_Md_leaf_48 : decode b_Md_leaf 48 = .ok (.getfield 78, 3) := by decide +kernel
theorem d_Md_leaf_51 : decode b_Md_leaf 51 = .ok (.iload_n 1, 1) := by decide +kernel
theorem d_Md_leaf_52 : decode b_Md_leaf 52 = .ok (.iastore, 1) := by decide +kernel
theorem d_Md_leaf_53 : decode b_Md_leaf 53 = .ok (.aload_n 0, 1) := by decide +kernel
theorem d_Md_leaf_54 : decode b_Md_leaf 54 = .ok (.dup, 1) := by decide +kernel
theorem d_Md_leaf_55 : decode b_Md_leaf 55 = .ok (.getfield 78, 3) := by decide +kernel
theorem d_Md_leaf_58 : decode b_Md_leaf 58 = .ok (.iconst (1), 1) := by decide +kernel
theorem d_Md_leaf_59 : decode b_Md_leaf 59 = .ok (.iadd, 1) := by decide +kernel
theorem d_Md_leaf_60 : decode b_Md_leaf 60 = .ok (.putfield 78, 3) := by decide +kernel
theorem d_Md_leaf_63 : decode b_Md_leaf 63 = .ok (.aload_n 0, 1) := by decide +kernel
theorem d_Md_leaf_64 : decode b_Md_leaf 64 = .ok (.getfield 78, 3) := by decide +kernel
theorem d_Md_leaf_67 : decode b_Md_leaf 67 = .ok (.iconst (1), 1) := by decide +kernel
theorem d_Md_leaf_68 : decode b_Md_leaf 68 = .ok (.isub, 1) := by decide +kernel
theorem d_Md_leaf_69 : decode b_Md_leaf 69 = .ok (.ireturn, 1) := by decide +kernel
theorem d_Md_in_0 : decode b_Md_in 0 = .ok (.iload_n 0, 1) := by decide +kernel
theorem d_Md_in_1 : decode b_Md_in 1 = .ok (.iload_n 1, 1) := by decide +kernel
theorem d_Md_in_2 : decode b_Md_in 2 = .ok (.if_icmp .lt (12), 3) := by decide +kernel
theorem d_Md_in_5 : decode b_Md_in 5 = .ok (.iload_n 0, 1) := by decide +kernel
theorem d_Md_in_6 : decode b_Md_in 6 = .ok (.iload_n 2, 1) := by decide +kernel
theorem d_Md_in_7 : decode b_Md_in 7 = .ok (.if_icmp .gt (7), 3) := by decide +kernel
theorem d_Md_in_10 : decode b_Md_in 10 = .ok (.iconst (1), 1) := by decide +kernel
theorem d_Md_in_11 : decode b_Md_in 11 = .ok (.goto (4), 3) := by decide +kernel
theorem d_Md_in_14 : decode b_Md_in 14 = .ok (.iconst (0), 1) := by decide +kernel
theorem d_Md_in_15 : decode b_Md_in 15 = .ok (.ireturn, 1) := by decide +kernel
theorem d_Md_split_0 : decode b_Md_split 0 = .ok (.aload_n 0, 1) := by decide +kernel
theorem d_Md_split_1 : decode b_Md_split 1 = .ok (.iconst (0), 1) := by decide +kernel
theorem d_Md_split_2 : decode b_Md_split 2 = .ok (.putfield 71, 3) := by decide +kernel
theorem d_Md_split_5 : decode b_Md_split 5 = .ok (.aload_n 0, 1) := by decide +kernel
theorem d_Md_split_6 : decode b_Md_split 6 = .ok (.iload_n 1, 1) := by decide +kernel
theorem d_Md_split_7 : decode b_Md_split 7 = .ok (.invokevirtual 81, 3) := by decide +kernel
theorem d_Md_split_10 : decode b_Md_split 10 = .ok (.ifCond .eq (32), 3) := by decide +kernel
theorem d_Md_split_13 : decode b_Md_split 13 = .ok (.iload_n 3, 1) := by decide +kernel
theorem d_Md_split_14 : decode b_Md_split 14 = .ok (.iconst (0), 1) := by decide +kernel
theorem d_Md_split_15 : decode b_Md_split 15 = .ok (.aload_n 0, 1) := by decide +kernel
theorem d_Md_split_16 : decode b_Md_split 16 = .ok (.getfield 78, 3) := by decide +kernel
theorem d_Md_split_19 : decode b_Md_split 19 = .ok (.iconst (1), 1) := by decide +kernel
theorem d_Md_split_20 : decode b_Md_split 20 = .ok (.isub, 1) := by decide +kernel
theorem d_Md_split_21 : decode b_Md_split 21 = .ok (.invokestatic 74, 3) := by decide +kernel
theorem d_Md_split_24 : decode b_Md_split 24 = .ok (.ifCond .eq (18), 3) := by decide +kernel
theorem d_Md_split_27 : decode b_Md_split 27 = .ok (.iload 4, 2) := by decide +kernel
theorem d_Md_split_29 : decode b_Md_split 29 = .ok (.iconst (0), 1) := by decide +kernel
theorem d_Md_split_30 : decode b_Md_split 30 = .ok (.aload_n 0, 1) := by decide +kernel
theorem d_Md_split_31 : decode b_Md_split 31 = .ok (.getfield 78, 3) := by decide +kernel
theorem d_Md_split_34 : decode b_Md_split 34 = .ok (.iconst (1), 1) := by decide +kernel
theorem d_Md_split_35 : decode b_Md_split 35 = .ok (.isub, 1) := by decide +kernel
theorem d_Md_split_36 : decode b_Md_split 36 = .ok (.invokestatic 74, 3) := by decide +kernel
theorem d_Md_split_39 : decode b_Md_split 39 = .ok (.ifCond .ne (5), 3) := by decide +kernel
theorem d_Md_split_42 : decode b_Md_split 42 = .ok (.iconst (-1), 1) := by decide +kernel
theorem d_Md_split_43 : decode b_Md_split 43 = .ok (.ireturn, 1) := by decide +kernel
theorem d_Md_split_44 : decode b_Md_split 44 = .ok (.iload_n 2, 1) := by decide +kernel
theorem d_Md_split_45 : decode b_Md_split 45 = .ok (.bipush (-100), 2) := by decide +kernel
theorem d_Md_split_47 : decode b_Md_split 47 = .ok (.bipush (100), 2) := by decide +kernel
theorem d_Md_split_49 : decode b_Md_split 49 = .ok (.invokestatic 74, 3) := by decide +kernel
theorem d_Md_split_52 : decode b_Md_split 52 = .ok (.ifCond .ne (6), 3) := by decide +kernel
theorem d_Md_split_55 : decode b_Md_split 55 = .ok (.bipush (-2), 2) := by decide +kernel
theorem d_Md_split_57 : decode b_Md_split 57 = .ok (.ireturn, 1) := by decide +kernel
theorem d_Md_split_58 : decode b_Md_split 58 = .ok (.aload_n 0, 1) := by decide +kernel
theorem d_Md_split_59 : decode b_Md_split 59 = .ok (.getfield 78, 3) := by decide +kernel
theorem d_Md_split_62 : decode b_Md_split 62 = .ok (.bipush (30), 2) := by decide +kernel
theorem d_Md_split_64 : decode b_Md_split 64 = .ok (.if_icmp .ne (6), 3) := by decide +kernel
theorem d_Md_split_67 : decode b_Md_split 67 = .ok (.bipush (-4), 2) := by decide +kernel
theorem d_Md_split_69 : decode b_Md_split 69 = .ok (.ireturn, 1) := by decide +kernel
theorem d_Md_split_70 : decode b_Md_split 70 = .ok (.aload_n 0, 1) := by decide +kernel
theorem d_Md_split_71 : decode b_Md_split 71 = .ok (.getfield 7, 3) := by decide +kernel
theorem d_Md_split_74 : decode b_Md_split 74 = .ok (.aload_n 0, 1) := by decide +kernel
theorem d_Md_split_75 : decode b_Md_split 75 = .ok (.getfield 78, 3) := by decide +kernel
theorem d_Md_split_78 : decode b_Md_split 78 = .ok (.iconst (0), 1) := by decide +kernel
theorem d_Md_split_79 : decode b_Md_split 79 = .ok (.bastore, 1) := by decide +kernel
theorem d_Md_split_80 : decode b_Md_split 80 = .ok (.aload_n 0, 1) := by decide +kernel
theorem d_Md_split_81 : decode b_Md_split 81 = .ok (.getfield 13, 3) := by decide +kernel
theorem d_Md_split_84 : decode b_Md_split 84 = .ok (.aload_n 0, 1) := by decide +kernel
theorem d_Md_split_85 : decode b_Md_split 85 = .ok (.getfield 78, 3) := by decide +kernel
theorem d_Md_split_88 : decode b_Md_split 88 = .ok (.iload_n 2, 1) := by decide +kernel
theorem d_Md_split_89 : decode b_Md_split 89 = .ok (.iastore, 1) := by decide +kernel
theorem d_Md_split_90 : decode b_Md_split 90 = .ok (.aload_n 0, 1) := by decide +kernel
theorem d_Md_split_91 : decode b_Md_split 91 = .ok (.getfield 17, 3) := by decide +kernel
theorem d_Md_split_94 : decode b_Md_split 94 = .ok (.aload_n 0, 1) := by decide +kernel
theorem d_Md_split_95 : decode b_Md_split 95 = .ok (.getfield 78, 3) := by decide +kernel
theorem d_Md_split_98 : decode b_Md_split 98 = .ok (.iload_n 1, 1) := by decide +kernel
theorem d_Md_split_99 : decode b_Md_split 99 = .ok (.iastore, 1) := by decide +kernel
theorem d_Md_split_100 : decode b_Md_split 100 = .ok (.aload_n 0, 1) := by decide +kernel
theorem d_Md_split_101 : decode b_Md_split 101 = .ok (.getfield 20, 3) := by decide +kernel
theorem d_Md_split_104 : decode b_Md_split 104 = .ok (.aload_n 0, 1) := by decide +kernel
theorem d_Md_split_105 : decode b_Md_split 105 = .ok (.getfield 78, 3) := by decide +kernel
theorem d_Md_split_108 : decode b_Md_split 108 = .ok (.iload_n 3, 1) := by decide +kernel
theorem d_Md_split_109 : decode b_Md_split 109 = .ok (.iastore, 1) := by decide +kernel
theorem d_Md_split_110 : decode b_Md_split 110 = .ok (.aload_n 0, 1) := by decide +kernel
theorem d_Md_split_111 : decode b_Md_split 111 = .ok (.getfield 23, 3) := by decide +kernel
theorem d_Md_split_114 : decode b_Md_split 114 = .ok (.aload_n 0, 1) := by decide +kernel
theorem d_Md_split_115 : decode b_Md_split 115 = .ok (.getfield 78, 3) := by decide +kernel
theorem d_Md_split_118 : decode b_Md_split 118 = .ok (.iload 4, 2) := by decide +kernel
theorem d_Md_split_120 : decode b_Md_split 120 = .ok (.iastore, 1) := by decide +kernel
theorem d_Md_split_121 : decode b_Md_split 121 = .ok (.aload_n 0, 1) := by decide +kernel
theorem d_Md_split_122 : decode b_Md_split 122 = .ok (.dup, 1) := by decide +kernel
theorem d_Md_split_123 : decode b_Md_split 123 = .ok (.getfield 78, 3) := by decide +kernel
theorem d_Md_split_126 : decode b_Md_split 126 = .ok (.iconst (1), 1) := by decide +kernel
theorem d_Md_split_127 : decode b_Md_split 127 = .ok (.iadd, 1) := by decide +kernel
theorem d_Md_split_128 : decode b_Md_split 128 = .ok (.putfield 78, 3) := by decide +kernel
theorem d_Md_split_131 : decode b_Md_split 131 = .ok (.aload_n 0, 1) := by decide +kernel
theorem d_Md_split_132 : decode b_Md_split 132 = .ok (.getfield 78, 3) := by decide +kernel
theorem d_Md_split_135 : decode b_Md_split 135 = .ok (.iconst (1), 1) := by decide +kernel
theorem d_Md_split_136 : decode b_Md_split 136 = .ok (.isub, 1) := by decide +kernel
theorem d_Md_split_137 : decode b_Md_split 137 = .ok (.ireturn, 1) := by decide +kernel
theorem d_Md_isColumn_0 : decode b_Md_isColumn 0 = .ok (.iload_n 1, 1) := by decide +kernel
theorem d_Md_isColumn_1 : decode b_Md_isColumn 1 = .ok (.iconst (0), 1) := by decide +kernel
theorem d_Md_isColumn_2 : decode b_Md_isColumn 2 = .ok (.aload_n 0, 1) := by decide +kernel
theorem d_Md_isColumn_3 : decode b_Md_isColumn 3 = .ok (.getfield 63, 3) := by decide +kernel
theorem d_Md_isColumn_6 : decode b_Md_isColumn 6 = .ok (.iconst (1), 1) := by decide +kernel
theorem d_Md_isColumn_7 : decode b_Md_isColumn 7 = .ok (.isub, 1) := by decide +kernel
theorem d_Md_isColumn_8 : decode b_Md_isColumn 8 = .ok (.invokestatic 74, 3) := by decide +kernel
theorem d_Md_isColumn_11 : decode b_Md_isColumn 11 = .ok (.ireturn, 1) := by decide +kernel
theorem d_Md_root_0 : decode b_Md_root 0 = .ok (.aload_n 0, 1) := by decide +kernel
theorem d_Md_root_1 : decode b_Md_root 1 = .ok (.iconst (0), 1) := by decide +kernel
theorem d_Md_root_2 : decode b_Md_root 2 = .ok (.putfield 71, 3) := by decide +kernel
theorem d_Md_root_5 : decode b_Md_root 5 = .ok (.iload_n 1, 1) := by decide +kernel
theorem d_Md_root_6 : decode b_Md_root 6 = .ok (.iconst (0), 1) := by decide +kernel
theorem d_Md_root_7 : decode b_Md_root 7 = .ok (.aload_n 0, 1) := by decide +kernel
theorem d_Md_root_8 : decode b_Md_root 8 = .ok (.getfield 78, 3) := by decide +kernel
theorem d_Md_root_11 : decode b_Md_root 11 = .ok (.iconst (1), 1) := by decide +kernel
theorem d_Md_root_12 : decode b_Md_root 12 = .ok (.isub, 1) := by decide +kernel
theorem d_Md_root_13 : decode b_Md_root 13 = .ok (.invokestatic 74, 3) := by decide +kernel
theorem d_Md_root_16 : decode b_Md_root 16 = .ok (.ifCond .ne (5), 3) := by decide +kernel
theorem d_Md_root_19 : decode b_Md_root 19 = .ok (.iconst (-1), 1) := by decide +kernel
theorem d_Md_root_20 : decode b_Md_root 20 = .ok (.ireturn, 1) := by decide +kernel
theorem d_Md_root_21 : decode b_Md_root 21 = .ok (.aload_n 0, 1) := by decide +kernel
theorem d_Md_root_22 : decode b_Md_root 22 = .ok (.getfield 85, 3) := by decide +kernel
theorem d_Md_root_25 : decode b_Md_root 25 = .ok (.iconst (4), 1) := by decide +kernel
theorem d_Md_root_26 : decode b_Md_root 26 = .ok (.if_icmp .ne (6), 3) := by decide +kernel
theorem d_Md_root_29 : decode b_Md_root 29 = .ok (.bipush (-4), 2) := by decide +kernel
theorem d_Md_root_31 : decode b_Md_root 31 = .ok (.ireturn, 1) := by decide +kernel
theorem d_Md_root_32 : decode b_Md_root 32 = .ok (.aload_n 0, 1) := by decide +kernel
theorem d_Md_root_33 : decode b_Md_root 33 = .ok (.getfield 26, 3) := by decide +kernel
theorem d_Md_root_36 : decode b_Md_root 36 = .ok (.aload_n 0, 1) := by decide +kernel
theorem d_Md_root_37 : decode b_Md_root 37 = .ok (.getfield 85, 3) := by decide +kernel
theorem d_Md_root_40 : decode b_Md_root 40 = .ok (.iload_n 1, 1) := by decide +kernel
theorem d_Md_root_41 : decode b_Md_root 41 = .ok (.iastore, 1) := by decide +kernel
theorem d_Md_root_42 : decode b_Md_root 42 = .ok (.aload_n 0, 1) := by decide +kernel
theorem d_Md_root_43 : decode b_Md_root 43 = .ok (.dup, 1) := by decide +kernel
theorem d_Md_root_44 : decode b_Md_root 44 = .ok (.getfield 85, 3) := by decide +kernel
theorem d_Md_root_47 : decode b_Md_root 47 = .ok (.iconst (1), 1) := by decide +kernel
theorem d_Md_root_48 : decode b_Md_root 48 = .ok (.iadd, 1) := by decide +kernel
theorem d_Md_root_49 : decode b_Md_root 49 = .ok (.putfield 85, 3) := by decide +kernel
theorem d_Md_root_52 : decode b_Md_root 52 = .ok (.aload_n 0, 1) := by decide +kernel
theorem d_Md_root_53 : decode b_Md_root 53 = .ok (.getfield 85, 3) := by decide +kernel
theorem d_Md_root_56 : decode b_Md_root 56 = .ok (.ireturn, 1) := by decide +kernel
theorem d_Md_weight_0 : decode b_Md_weight 0 = .ok (.aload_n 0, 1) := by decide +kernel
theorem d_Md_weight_1 : decode b_Md_weight 1 = .ok (.iconst (0), 1) := by decide +kernel
theorem d_Md_weight_2 : decode b_Md_weight 2 = .ok (.putfield 71, 3) := by decide +kernel
theorem d_Md_weight_5 : decode b_Md_weight 5 = .ok (.aload_n 0, 1) := by decide +kernel
theorem d_Md_weight_6 : decode b_Md_weight 6 = .ok (.iload_n 1, 1) := by decide +kernel
theorem d_Md_weight_7 : decode b_Md_weight 7 = .ok (.invokevirtual 81, 3) := by decide +kernel
theorem d_Md_weight_10 : decode b_Md_weight 10 = .ok (.ifCond .ne (5), 3) := by decide +kernel
theorem d_Md_weight_13 : decode b_Md_weight 13 = .ok (.iconst (-1), 1) := by decide +kernel
theorem d_Md_weight_14 : decode b_Md_weight 14 = .ok (.ireturn, 1) := by decide +kernel
theorem d_Md_weight_15 : decode b_Md_weight 15 = .ok (.iload_n 2, 1) := by decide +kernel
theorem d_Md_weight_16 : decode b_Md_weight 16 = .ok (.bipush (-20), 2) := by decide +kernel
theorem d_Md_weight_18 : decode b_Md_weight 18 = .ok (.bipush (20), 2) := by decide +kernel
theorem d_Md_weight_20 : decode b_Md_weight 20 = .ok (.invokestatic 74, 3) := by decide +kernel
theorem d_Md_weight_23 : decode b_Md_weight 23 = .ok (.ifCond .ne (6), 3) := by decide +kernel
theorem d_Md_weight_26 : decode b_Md_weight 26 = .ok (.bipush (-2), 2) := by decide +kernel
theorem d_Md_weight_28 : decode b_Md_weight 28 = .ok (.ireturn, 1) := by decide +kernel
theorem d_Md_weight_29 : decode b_Md_weight 29 = .ok (.aload_n 0, 1) := by decide +kernel
theorem d_Md_weight_30 : decode b_Md_weight 30 = .ok (.getfield 29, 3) := by decide +kernel
theorem d_Md_weight_33 : decode b_Md_weight 33 = .ok (.iload_n 1, 1) := by decide +kernel
theorem d_Md_weight_34 : decode b_Md_weight 34 = .ok (.iload_n 2, 1) := by decide +kernel
theorem d_Md_weight_35 : decode b_Md_weight 35 = .ok (.iastore, 1) := by decide +kernel
theorem d_Md_weight_36 : decode b_Md_weight 36 = .ok (.iconst (1), 1) := by decide +kernel
theorem d_Md_weight_37 : decode b_Md_weight 37 = .ok (.ireturn, 1) := by decide +kernel
theorem d_Md_background_0 : decode b_Md_background 0 = .ok (.aload_n 0, 1) := by decide +kernel
theorem d_Md_background_1 : decode b_Md_background 1 = .ok (.iconst (0), 1) := by decide +kernel
theorem d_Md_background_2 : decode b_Md_background 2 = .ok (.putfield 71, 3) := by decide +kernel
theorem d_Md_background_5 : decode b_Md_background 5 = .ok (.aload_n 0, 1) := by decide +kernel
theorem d_Md_background_6 : decode b_Md_background 6 = .ok (.getfield 88, 3) := by decide +kernel
theorem d_Md_background_9 : decode b_Md_background 9 = .ok (.iconst (5), 1) := by decide +kernel
theorem d_Md_background_10 : decode b_Md_background 10 = .ok (.if_icmp .ne (6), 3) := by decide +kernel
theorem d_Md_background_13 : decode b_Md_background 13 = .ok (.bipush (-4), 2) := by decide +kernel
theorem d_Md_background_15 : decode b_Md_background 15 = .ok (.ireturn, 1) := by decide +kernel
theorem d_Md_background_16 : decode b_Md_background 16 = .ok (.aload_n 0, 1) := by decide +kernel
theorem d_Md_background_17 : decode b_Md_background 17 = .ok (.dup, 1) := by decide +kernel
theorem d_Md_background_18 : decode b_Md_background 18 = .ok (.getfield 88, 3) := by decide +kernel
theorem d_Md_background_21 : decode b_Md_background 21 = .ok (.iconst (1), 1) := by decide +kernel
theorem d_Md_background_22 : decode b_Md_background 22 = .ok (.iadd, 1) := by decide +kernel
theorem d_Md_background_23 : decode b_Md_background 23 = .ok (.putfield 88, 3) := by decide +kernel
theorem d_Md_background_26 : decode b_Md_background 26 = .ok (.iconst (0), 1) := by decide +kernel
theorem d_Md_background_27 : decode b_Md_background 27 = .ok (.istore_n 1, 1) := by decide +kernel
theorem d_Md_background_28 : decode b_Md_background 28 = .ok (.iload_n 1, 1) := by decide +kernel
theorem d_Md_background_29 : decode b_Md_background 29 = .ok (.bipush (6), 2) := by decide +kernel
theorem d_Md_background_31 : decode b_Md_background 31 = .ok (.if_icmp .ge (24), 3) := by decide +kernel
theorem d_Md_background_34 : decode b_Md_background 34 = .ok (.aload_n 0, 1) := by decide +kernel
theorem d_Md_background_35 : decode b_Md_background 35 = .ok (.getfield 38, 3) := by decide +kernel
theorem d_Md_background_38 : decode b_Md_background 38 = .ok (.bipush (6), 2) := by decide +kernel
theorem d_Md_background_40 : decode b_Md_background 40 = .ok (.aload_n 0, 1) := by decide +kernel
theorem d_Md_background_41 : decode b_Md_background 41 = .ok (.getfield 88, 3) := by decide +kernel
theorem d_Md_background_44 : decode b_Md_background 44 = .ok (.imul, 1) := by decide +kernel
theorem d_Md_background_45 : decode b_Md_background 45 = .ok (.iload_n 1, 1) := by decide +kernel
theorem d_Md_background_46 : decode b_Md_background 46 = .ok (.iadd, 1) := by decide +kernel
theorem d_Md_background_47 : decode b_Md_background 47 = .ok (.iconst (0), 1) := by decide +kernel
theorem d_Md_background_48 : decode b_Md_background 48 = .ok (.iastore, 1) := by decide +kernel
theorem d_Md_background_49 : decode b_Md_background 49 = .ok (.iinc 1 (1), 3) := by decide +kernel
theorem d_Md_background_52 : decode b_Md_background 52 = .ok (.goto (-24), 3) := by decide +kernel
theorem d_Md_background_55 : decode b_Md_background 55 = .ok (.aload_n 0, 1) := by decide +kernel
theorem d_Md_background_56 : decode b_Md_background 56 = .ok (.getfield 88, 3) := by decide +kernel
theorem d_Md_background_59 : decode b_Md_background 59 = .ok (.iconst (1), 1) := by decide +kernel
theorem d_Md_background_60 : decode b_Md_background 60 = .ok (.isub, 1) := by decide +kernel
theorem d_Md_background_61 : decode b_Md_background 61 = .ok (.ireturn, 1) := by decide +kernel
theorem d_Md_item_0 : decode b_Md_item 0 = .ok (.aload_n 0, 1) := by decide +kernel
theorem d_Md_item_1 : decode b_Md_item 1 = .ok (.iconst (0), 1) := by decide +kernel
theorem d_Md_item_2 : decode b_Md_item 2 = .ok (.putfield 71, 3) := by decide +kernel
theorem d_Md_item_5 : decode b_Md_item 5 = .ok (.iload_n 1, 1) := by decide +kernel
theorem d_Md_item_6 : decode b_Md_item 6 = .ok (.iconst (-1), 1) := by decide +kernel
theorem d_Md_item_7 : decode b_Md_item 7 = .ok (.aload_n 0, 1) := by decide +kernel
theorem d_Md_item_8 : decode b_Md_item 8 = .ok (.getfield 88, 3) := by decide +kernel
theorem d_Md_item_11 : decode b_Md_item 11 = .ok (.iconst (1), 1) := by decide +kernel
theorem d_Md_item_12 : decode b_Md_item 12 = .ok (.isub, 1) := by decide +kernel
theorem d_Md_item_13 : decode b_Md_item 13 = .ok (.invokestatic 74, 3) := by decide +kernel
theorem d_Md_item_16 : decode b_Md_item 16 = .ok (.ifCond .eq (11), 3) := by decide +kernel
theorem d_Md_item_19 : decode b_Md_item 19 = .ok (.aload_n 0, 1) := by decide +kernel
theorem d_Md_item_20 : decode b_Md_item 20 = .ok (.iload_n 2, 1) := by decide +kernel
theorem d_Md_item_21 : decode b_Md_item 21 = .ok (.invokevirtual 81, 3) := by decide +kernel
theorem d_Md_item_24 : decode b_Md_item 24 = .ok (.ifCond .ne (5), 3) := by decide +kernel
theorem d_Md_item_27 : decode b_Md_item 27 = .ok (.iconst (-1), 1) := by decide +kernel
theorem d_Md_item_28 : decode b_Md_item 28 = .ok (.ireturn, 1) := by decide +kernel
theorem d_Md_item_29 : decode b_Md_item 29 = .ok (.iload_n 3, 1) := by decide +kernel
theorem d_Md_item_30 : decode b_Md_item 30 = .ok (.bipush (-100), 2) := by decide +kernel
theorem d_Md_item_32 : decode b_Md_item 32 = .ok (.bipush (100), 2) := by decide +kernel
theorem d_Md_item_34 : decode b_Md_item 34 = .ok (.invokestatic 74, 3) := by decide +kernel
theorem d_Md_item_37 : decode b_Md_item 37 = .ok (.ifCond .ne (6), 3) := by decide +kernel
theorem d_Md_item_40 : decode b_Md_item 40 = .ok (.bipush (-2), 2) := by decide +kernel
theorem d_Md_item_42 : decode b_Md_item 42 = .ok (.ireturn, 1) := by decide +kernel
theorem d_Md_item_43 : decode b_Md_item 43 = .ok (.aload_n 0, 1) := by decide +kernel
theorem d_Md_item_44 : decode b_Md_item 44 = .ok (.getfield 38, 3) := by decide +kernel
theorem d_Md_item_47 : decode b_Md_item 47 = .ok (.bipush (6), 2) := by decide +kernel
theorem d_Md_item_49 : decode b_Md_item 49 = .ok (.iload_n 1, 1) := by decide +kernel
theorem d_Md_item_50 : decode b_Md_item 50 = .ok (.iconst (1), 1) := by decide +kernel
theorem d_Md_item_51 : decode b_Md_item 51 = .ok (.iadd, 1) := by decide +kernel
theorem d_Md_item_52 : decode b_Md_item 52 = .ok (.imul, 1) := by decide +kernel
theorem d_Md_item_53 : decode b_Md_item 53 = .ok (.iload_n 2, 1) := by decide +kernel
theorem d_Md_item_54 : decode b_Md_item 54 = .ok (.iadd, 1) := by decide +kernel
theorem d_Md_item_55 : decode b_Md_item 55 = .ok (.iload_n 3, 1) := by decide +kernel
theorem d_Md_item_56 : decode b_Md_item 56 = .ok (.iastore, 1) := by decide +kernel
theorem d_Md_item_57 : decode b_Md_item 57 = .ok (.iconst (1), 1) := by decide +kernel
theorem d_Md_item_58 : decode b_Md_item 58 = .ok (.ireturn, 1) := by decide +kernel
theorem d_Md_group_0 : decode b_Md_group 0 = .ok (.aload_n 0, 1) := by decide +kernel
theorem d_Md_group_1 : decode b_Md_group 1 = .ok (.iconst (0), 1) := by decide +kernel
theorem d_Md_group_2 : decode b_Md_group 2 = .ok (.putfield 71, 3) := by decide +kernel
theorem d_Md_group_5 : decode b_Md_group 5 = .ok (.aload_n 0, 1) := by decide +kernel
theorem d_Md_group_6 : decode b_Md_group 6 = .ok (.iload_n 1, 1) := by decide +kernel
theorem d_Md_group_7 : decode b_Md_group 7 = .ok (.invokevirtual 81, 3) := by decide +kernel
theorem d_Md_group_10 : decode b_Md_group 10 = .ok (.ifCond .ne (5), 3) := by decide +kernel
theorem d_Md_group_13 : decode b_Md_group 13 = .ok (.iconst (-1), 1) := by decide +kernel
theorem d_Md_group_14 : decode b_Md_group 14 = .ok (.ireturn, 1) := by decide +kernel
theorem d_Md_group_15 : decode b_Md_group 15 = .ok (.iload_n 2, 1) := by decide +kernel
theorem d_Md_group_16 : decode b_Md_group 16 = .ok (.iconst (0), 1) := by decide +kernel
theorem d_Md_group_17 : decode b_Md_group 17 = .ok (.aload_n 0, 1) := by decide +kernel
theorem d_Md_group_18 : decode b_Md_group 18 = .ok (.getfield 63, 3) := by decide +kernel
theorem d_Md_group_21 : decode b_Md_group 21 = .ok (.iconst (1), 1) := by decide +kernel
theorem d_Md_group_22 : decode b_Md_group 22 = .ok (.isub, 1) := by decide +kernel
theorem d_Md_group_23 : decode b_Md_group 23 = .ok (.invokestatic 74, 3) := by decide +kernel
theorem d_Md_group_26 : decode b_Md_group 26 = .ok (.ifCond .ne (6), 3) := by decide +kernel
theorem d_Md_group_29 : decode b_Md_group 29 = .ok (.bipush (-2), 2) := by decide +kernel
theorem d_Md_group_31 : decode b_Md_group 31 = .ok (.ireturn, 1) := by decide +kernel
theorem d_Md_group_32 : decode b_Md_group 32 = .ok (.aload_n 0, 1) := by decide +kernel
theorem d_Md_group_33 : decode b_Md_group 33 = .ok (.getfield 32, 3) := by decide +kernel
theorem d_Md_group_36 : decode b_Md_group 36 = .ok (.iload_n 1, 1) := by decide +kernel
theorem d_Md_group_37 : decode b_Md_group 37 = .ok (.iaload, 1) := by decide +kernel
theorem d_Md_group_38 : decode b_Md_group 38 = .ok (.istore_n 3, 1) := by decide +kernel
theorem d_Md_group_39 : decode b_Md_group 39 = .ok (.aload_n 0, 1) := by decide +kernel
theorem d_Md_group_40 : decode b_Md_group 40 = .ok (.getfield 32, 3) := by decide +kernel
theorem d_Md_group_43 : decode b_Md_group 43 = .ok (.iload_n 1, 1) := by decide +kernel
theorem d_Md_group_44 : decode b_Md_group 44 = .ok (.iload_n 2, 1) := by decide +kernel
theorem d_Md_group_45 : decode b_Md_group 45 = .ok (.iastore, 1) := by decide +kernel
theorem d_Md_group_46 : decode b_Md_group 46 = .ok (.iload_n 3, 1) := by decide +kernel
theorem d_Md_group_47 : decode b_Md_group 47 = .ok (.ireturn, 1) := by decide +kernel
theorem d_Md_answer_0 : decode b_Md_answer 0 = .ok (.aload_n 0, 1) := by decide +kernel
theorem d_Md_answer_1 : decode b_Md_answer 1 = .ok (.iconst (0), 1) := by decide +kernel
theorem d_Md_answer_2 : decode b_Md_answer 2 = .ok (.putfield 71, 3) := by decide +kernel
theorem d_Md_answer_5 : decode b_Md_answer 5 = .ok (.iload_n 1, 1) := by decide +kernel
theorem d_Md_answer_6 : decode b_Md_answer 6 = .ok (.iconst (-1), 1) := by decide +kernel
theorem d_Md_answer_7 : decode b_Md_answer 7 = .ok (.aload_n 0, 1) := by decide +kernel
theorem d_Md_answer_8 : decode b_Md_answer 8 = .ok (.getfield 88, 3) := by decide +kernel
theorem d_Md_answer_11 : decode b_Md_answer 11 = .ok (.iconst (1), 1) := by decide +kernel
theorem d_Md_answer_12 : decode b_Md_answer 12 = .ok (.isub, 1) := by decide +kernel
theorem d_Md_answer_13 : decode b_Md_answer 13 = .ok (.invokestatic 74, 3) := by decide +kernel
theorem d_Md_answer_16 : decode b_Md_answer 16 = .ok (.ifCond .ne (7), 3) := by decide +kernel
theorem d_Md_answer_19 : decode b_Md_answer 19 = .ok (.ldc2_w 91, 3) := by decide +kernel
theorem d_Md_answer_22 : decode b_Md_answer 22 = .ok (.lreturn, 1) := by decide +kernel
theorem d_Md_answer_23 : decode b_Md_answer 23 = .ok (.aload_n 0, 1) := by decide +kernel
theorem d_Md_answer_24 : decode b_Md_answer 24 = .ok (.iload_n 1, 1) := by decide +kernel
theorem d_Md_answer_25 : decode b_Md_answer 25 = .ok (.iconst (1), 1) := by decide +kernel
theorem d_Md_answer_26 : decode b_Md_answer 26 = .ok (.iadd, 1) := by decide +kernel
theorem d_Md_answer_27 : decode b_Md_answer 27 = .ok (.invokevirtual 93, 3) := by decide +kernel
theorem d_Md_answer_30 : decode b_Md_answer 30 = .ok (.aload_n 0, 1) := by decide +kernel
theorem d_Md_answer_31 : decode b_Md_answer 31 = .ok (.invokevirtual 97, 3) := by decide +kernel
theorem d_Md_answer_34 : decode b_Md_answer 34 = .ok (.lreturn, 1) := by decide +kernel
theorem d_Md_take_0 : decode b_Md_take 0 = .ok (.iconst (0), 1) := by decide +kernel
theorem d_Md_take_1 : decode b_Md_take 1 = .ok (.istore_n 2, 1) := by decide +kernel
theorem d_Md_take_2 : decode b_Md_take 2 = .ok (.iload_n 2, 1) := by decide +kernel
theorem d_Md_take_3 : decode b_Md_take 3 = .ok (.aload_n 0, 1) := by decide +kernel
theorem d_Md_take_4 : decode b_Md_take 4 = .ok (.getfield 63, 3) := by decide +kernel
theorem d_Md_take_7 : decode b_Md_take 7 = .ok (.if_icmp .ge (26), 3) := by decide +kernel
theorem d_Md_take_10 : decode b_Md_take 10 = .ok (.aload_n 0, 1) := by decide +kernel
theorem d_Md_take_11 : decode b_Md_take 11 = .ok (.getfield 41, 3) := by decide +kernel
theorem d_Md_take_14 : decode b_Md_take 14 = .ok (.iload_n 2, 1) := by decide +kernel
theorem d_Md_take_15 : decode b_Md_take 15 = .ok (.aload_n 0, 1) := by decide +kernel
theorem d_Md_take_16 : decode b_Md_take 16 = .ok (.getfield 38, 3) := by decide +kernel
theorem d_Md_take_19 : decode b_Md_take 19 = .ok (.bipush (6), 2) := by decide +kernel
theorem d_Md_take_21 : decode b_Md_take 21 = .ok (.iload_n 1, 1) := by decide +kernel
theorem d_Md_take_22 : decode b_Md_take 22 = .ok (.imul, 1) := by decide +kernel
theorem d_Md_take_23 : decode b_Md_take 23 = .ok (.iload_n 2, 1) := by decide +kernel
theorem d_Md_take_24 : decode b_Md_take 24 = .ok (.iadd, 1) := by decide +kernel
theorem d_Md_take_25 : decode b_Md_take 25 = .ok (.iaload, 1) := by decide +kernel
theorem d_Md_take_26 : decode b_Md_take 26 = .ok (.iastore, 1) := by decide +kernel
theorem d_Md_take_27 : decode b_Md_take 27 = .ok (.iinc 2 (1), 3) := by decide +kernel
theorem d_Md_take_30 : decode b_Md_take 30 = .ok (.goto (-28), 3) := by decide +kernel
theorem d_Md_take_33 : decode b_Md_take 33 = .ok (.return_, 1) := by decide +kernel
theorem d_Md_answerNow_0 : decode b_Md_answerNow 0 = .ok (.lconst 0, 1) := by decide +kernel
theorem d_Md_answerNow_1 : decode b_Md_answerNow 1 = .ok (.lstore_n 1, 1) := by decide +kernel
theorem d_Md_answerNow_2 : decode b_Md_answerNow 2 = .ok (.iconst (0), 1) := by decide +kernel
theorem d_Md_answerNow_3 : decode b_Md_answerNow 3 = .ok (.istore_n 3, 1) := by decide +kernel
theorem d_Md_answerNow_4 : decode b_Md_answerNow 4 = .ok (.iload_n 3, 1) := by decide +kernel
theorem d_Md_answerNow_5 : decode b_Md_answerNow 5 = .ok (.aload_n 0, 1) := by decide +kernel
theorem d_Md_answerNow_6 : decode b_Md_answerNow 6 = .ok (.getfield 85, 3) := by decide +kernel
theorem d_Md_answerNow_9 : decode b_Md_answerNow 9 = .ok (.if_icmp .ge (82), 3) := by decide +kernel
theorem d_Md_answerNow_12 : decode b_Md_answerNow 12 = .ok (.aload_n 0, 1) := by decide +kernel
theorem d_Md_answerNow_13 : decode b_Md_answerNow 13 = .ok (.getfield 26, 3) := by decide +kernel
theorem d_Md_answerNow_16 : decode b_Md_answerNow 16 = .ok (.iload_n 3, 1) := by decide +kernel
theorem d_Md_answerNow_17 : decode b_Md_answerNow 17 = .ok (.iaload, 1) := by decide +kernel
theorem d_Md_answerNow_18 : decode b_Md_answerNow 18 = .ok (.istore 4, 2) := by decide +kernel
theorem d_Md_answerNow_20 : decode b_Md_answerNow 20 = .ok (.aload_n 0, 1) := by decide +kernel
theorem d_Md_answerNow_21 : decode b_Md_answerNow 21 = .ok (.getfield 7, 3) := by decide +kernel
theorem d_Md_answerNow_24 : decode b_Md_answerNow 24 = .ok (.iload 4, 2) := by decide +kernel
theorem d_Md_answerNow_26 : decode b_Md_answerNow 26 = .ok (.baload, 1) := by decide +kernel
theorem d_Md_answerNow_27 : decode b_Md_answerNow 27 = .ok (.ifCond .ne (47), 3) := by decide +kernel
theorem d_Md_answerNow_30 : decode b_Md_answerNow 30 = .ok (.aload_n 0, 1) := by decide +kernel
theorem d_Md_answerNow_31 : decode b_Md_answerNow 31 = .ok (.getfield 41, 3) := by decide +kernel
theorem d_Md_answerNow_34 : decode b_Md_answerNow 34 = .ok (.aload_n 0, 1) := by decide +kernel
theorem d_Md_answerNow_35 : decode b_Md_answerNow 35 = .ok (.getfield 17, 3) := by decide +kernel
theorem d_Md_answerNow_38 : decode b_Md_answerNow 38 = .ok (.iload 4, 2) := by decide +kernel
theorem d_Md_answerNow_40 : decode b_Md_answerNow 40 = .ok (.iaload, 1) := by decide +kernel
theorem d_Md_answerNow_41 : decode b_Md_answerNow 41 = .ok (.iaload, 1) := by decide +kernel
theorem d_Md_answerNow_42 : decode b_Md_answerNow 42 = .ok (.aload_n 0, 1) := by decide +kernel
theorem d_Md_answerNow_43 : decode b_Md_answerNow 43 = .ok (.getfield 13, 3) := by decide +kernel
theorem d_Md_answerNow_46 : decode b_Md_answerNow 46 = .ok (.iload 4, 2) := by decide +kernel
theorem d_Md_answerNow_48 : decode b_Md_answerNow 48 = .ok (.iaload, 1) := by decide +kernel
theorem d_Md_answerNow_49 : decode b_Md_answerNow 49 = .ok (.if_icmp .gt (13), 3) := by decide +kernel
theorem d_Md_answerNow_52 : decode b_Md_answerNow 52 = .ok (.aload_n 0, 1) := by decide +kernel
theorem d_Md_answerNow_53 : decode b_Md_answerNow 53 = .ok (.getfield 20, 3) := by decide +kernel
theorem d_Md_answerNow_56 : decode b_Md_answerNow 56 = .ok (.iload 4, 2) := by decide +kernel
theorem d_Md_answerNow_58 : decode b_Md_answerNow 58 = .ok (.iaload, 1) := by decide +kernel
theorem d_Md_answerNow_59 : decode b_Md_answerNow 59 = .ok (.goto (10), 3) := by decide +kernel
theorem d_Md_answerNow_62 : decode b_Md_answerNow 62 = .ok (.aload_n 0, 1) := by decide +kernel
theorem d_Md_answerNow_63 : decode b_Md_answerNow 63 = .ok (.getfield 23, 3) := by decide +kernel
theorem d_Md_answerNow_66 : decode b_Md_answerNow 66 = .ok (.iload 4, 2) := by decide +kernel
theorem d_Md_answerNow_68 : decode b_Md_answerNow 68 = .ok (.iaload, 1) := by decide +kernel
theorem d_Md_answerNow_69 : decode b_Md_answerNow 69 = .ok (.istore 4, 2) := by decide +kernel
theorem d_Md_answerNow_71 : decode b_Md_answerNow 71 = .ok (.goto (-51), 3) := by decide +kernel
theorem d_Md_answerNow_74 : decode b_Md_answerNow 74 = .ok (.lload_n 1, 1) := by decide +kernel
theorem d_Md_answerNow_75 : decode b_Md_answerNow 75 = .ok (.aload_n 0, 1) := by decide +kernel
theorem d_Md_answerNow_76 : decode b_Md_answerNow 76 = .ok (.getfield 13, 3) := by decide +kernel
theorem d_Md_answerNow_79 : decode b_Md_answerNow 79 = .ok (.iload 4, 2) := by decide +kernel
theorem d_Md_answerNow_81 : decode b_Md_answerNow 81 = .ok (.iaload, 1) := by decide +kernel
theorem d_Md_answerNow_82 : decode b_Md_answerNow 82 = .ok (.i2l, 1) := by decide +kernel
theorem d_Md_answerNow_83 : decode b_Md_answerNow 83 = .ok (.ladd, 1) := by decide +kernel
theorem d_Md_answerNow_84 : decode b_Md_answerNow 84 = .ok (.lstore_n 1, 1) := by decide +kernel
theorem d_Md_answerNow_85 : decode b_Md_answerNow 85 = .ok (.iinc 3 (1), 3) := by decide +kernel
theorem d_Md_answerNow_88 : decode b_Md_answerNow 88 = .ok (.goto (-84), 3) := by decide +kernel
theorem d_Md_answerNow_91 : decode b_Md_answerNow 91 = .ok (.iconst (0), 1) := by decide +kernel
theorem d_Md_answerNow_92 : decode b_Md_answerNow 92 = .ok (.istore_n 3, 1) := by decide +kernel
theorem d_Md_answerNow_93 : decode b_Md_answerNow 93 = .ok (.iload_n 3, 1) := by decide +kernel
theorem d_Md_answerNow_94 : decode b_Md_answerNow 94 = .ok (.aload_n 0, 1) := by decide +kernel
theorem d_Md_answerNow_95 : decode b_Md_answerNow 95 = .ok (.getfield 63, 3) := by decide +kernel
theorem d_Md_answerNow_98 : decode b_Md_answerNow 98 = .ok (.if_icmp .ge (26), 3) := by decide +kernel
theorem d_Md_answerNow_101 : decode b_Md_answerNow 101 = .ok (.lload_n 1, 1) := by decide +kernel
theorem d_Md_answerNow_102 : decode b_Md_answerNow 102 = .ok (.aload_n 0, 1) := by decide +kernel
theorem d_Md_answerNow_103 : decode b_Md_answerNow 103 = .ok (.getfield 29, 3) := by decide +kernel
theorem d_Md_answerNow_106 : decode b_Md_answerNow 106 = .ok (.iload_n 3, 1) := by decide +kernel
theorem d_Md_answerNow_107 : decode b_Md_answerNow 107 = .ok (.iaload, 1) := by decide +kernel
theorem d_Md_answerNow_108 : decode b_Md_answerNow 108 = .ok (.aload_n 0, 1) := by decide +kernel
theorem d_Md_answerNow_109 : decode b_Md_answerNow 109 = .ok (.getfield 41, 3) := by decide +kernel
theorem d_Md_answerNow_112 : decode b_Md_answerNow 112 = .ok (.iload_n 3, 1) := by decide +kernel
theorem d_Md_answerNow_113 : decode b_Md_answerNow 113 = .ok (.iaload, 1) := by decide +kernel
theorem d_Md_answerNow_114 : decode b_Md_answerNow 114 = .ok (.imul, 1) := by decide +kernel
theorem d_Md_answerNow_115 : decode b_Md_answerNow 115 = .ok (.i2l, 1) := by decide +kernel
theorem d_Md_answerNow_116 : decode b_Md_answerNow 116 = .ok (.ladd, 1) := by decide +kernel
theorem d_Md_answerNow_117 : decode b_Md_answerNow 117 = .ok (.lstore_n 1, 1) := by decide +kernel
theorem d_Md_answerNow_118 : decode b_Md_answerNow 118 = .ok (.iinc 3 (1), 3) := by decide +kernel
end
section
theorem d_Md_answerNow_121 : decode b_Md_answerNow 121 = .ok (.goto (-28), 3) := by decide +kernel
theorem d_Md_answerNow_124 : decode b_Md_answerNow 124 = .ok (.lload_n 1, 1) := by decide +kernel
theorem d_Md_answerNow_125 : decode b_Md_answerNow 125 = .ok (.lreturn, 1) := by decide +kernel
theorem d_Md_value_0 : decode b_Md_value 0 = .ok (.aload_n 0, 1) := by decide +kernel
theorem d_Md_value_1 : decode b_Md_value 1 = .ok (.iconst (0), 1) := by decide +kernel
theorem d_Md_value_2 : decode b_Md_value 2 = .ok (.putfield 71, 3) := by decide +kernel
theorem d_Md_value_5 : decode b_Md_value 5 = .ok (.iload_n 1, 1) := by decide +kernel
theorem d_Md_value_6 : decode b_Md_value 6 = .ok (.iconst (0), 1) := by decide +kernel
theorem d_Md_value_7 : decode b_Md_value 7 = .ok (.iconst (1), 1) := by decide +kernel
theorem d_Md_value_8 : decode b_Md_value 8 = .ok (.aload_n 0, 1) := by decide +kernel
theorem d_Md_value_9 : decode b_Md_value 9 = .ok (.getfield 63, 3) := by decide +kernel
theorem d_Md_value_12 : decode b_Md_value 12 = .ok (.ishl, 1) := by decide +kernel
theorem d_Md_value_13 : decode b_Md_value 13 = .ok (.iconst (1), 1) := by decide +kernel
theorem d_Md_value_14 : decode b_Md_value 14 = .ok (.isub, 1) := by decide +kernel
theorem d_Md_value_15 : decode b_Md_value 15 = .ok (.invokestatic 74, 3) := by decide +kernel
theorem d_Md_value_18 : decode b_Md_value 18 = .ok (.ifCond .eq (12), 3) := by decide +kernel
theorem d_Md_value_21 : decode b_Md_value 21 = .ok (.iload_n 2, 1) := by decide +kernel
theorem d_Md_value_22 : decode b_Md_value 22 = .ok (.iconst (0), 1) := by decide +kernel
theorem d_Md_value_23 : decode b_Md_value 23 = .ok (.iconst (1), 1) := by decide +kernel
theorem d_Md_value_24 : decode b_Md_value 24 = .ok (.invokestatic 74, 3) := by decide +kernel
theorem d_Md_value_27 : decode b_Md_value 27 = .ok (.ifCond .ne (7), 3) := by decide +kernel
theorem d_Md_value_30 : decode b_Md_value 30 = .ok (.ldc2_w 91, 3) := by decide +kernel
theorem d_Md_value_33 : decode b_Md_value 33 = .ok (.lreturn, 1) := by decide +kernel
theorem d_Md_value_34 : decode b_Md_value 34 = .ok (.aload_n 0, 1) := by decide +kernel
theorem d_Md_value_35 : decode b_Md_value 35 = .ok (.invokevirtual 101, 3) := by decide +kernel
theorem d_Md_value_38 : decode b_Md_value 38 = .ok (.ifCond .eq (5), 3) := by decide +kernel
theorem d_Md_value_41 : decode b_Md_value 41 = .ok (.lconst 0, 1) := by decide +kernel
theorem d_Md_value_42 : decode b_Md_value 42 = .ok (.lreturn, 1) := by decide +kernel
theorem d_Md_value_43 : decode b_Md_value 43 = .ok (.aload_n 0, 1) := by decide +kernel
theorem d_Md_value_44 : decode b_Md_value 44 = .ok (.invokevirtual 105, 3) := by decide +kernel
theorem d_Md_value_47 : decode b_Md_value 47 = .ok (.aload_n 0, 1) := by decide +kernel
theorem d_Md_value_48 : decode b_Md_value 48 = .ok (.getfield 44, 3) := by decide +kernel
theorem d_Md_value_51 : decode b_Md_value 51 = .ok (.iload_n 1, 1) := by decide +kernel
theorem d_Md_value_52 : decode b_Md_value 52 = .ok (.laload, 1) := by decide +kernel
theorem d_Md_value_53 : decode b_Md_value 53 = .ok (.aload_n 0, 1) := by decide +kernel
theorem d_Md_value_54 : decode b_Md_value 54 = .ok (.getfield 88, 3) := by decide +kernel
theorem d_Md_value_57 : decode b_Md_value 57 = .ok (.i2l, 1) := by decide +kernel
theorem d_Md_value_58 : decode b_Md_value 58 = .ok (.iload_n 2, 1) := by decide +kernel
theorem d_Md_value_59 : decode b_Md_value 59 = .ok (.invokestatic 108, 3) := by decide +kernel
theorem d_Md_value_62 : decode b_Md_value 62 = .ok (.lreturn, 1) := by decide +kernel
theorem d_Md_throwsNow_0 : decode b_Md_throwsNow 0 = .ok (.aload_n 0, 1) := by decide +kernel
theorem d_Md_throwsNow_1 : decode b_Md_throwsNow 1 = .ok (.aload_n 0, 1) := by decide +kernel
theorem d_Md_throwsNow_2 : decode b_Md_throwsNow 2 = .ok (.getfield 88, 3) := by decide +kernel
theorem d_Md_throwsNow_5 : decode b_Md_throwsNow 5 = .ok (.ifCond .ne (7), 3) := by decide +kernel
theorem d_Md_throwsNow_8 : decode b_Md_throwsNow 8 = .ok (.iconst (1), 1) := by decide +kernel
theorem d_Md_throwsNow_9 : decode b_Md_throwsNow 9 = .ok (.goto (4), 3) := by decide +kernel
theorem d_Md_throwsNow_12 : decode b_Md_throwsNow 12 = .ok (.iconst (0), 1) := by decide +kernel
theorem d_Md_throwsNow_13 : decode b_Md_throwsNow 13 = .ok (.putfield 71, 3) := by decide +kernel
theorem d_Md_throwsNow_16 : decode b_Md_throwsNow 16 = .ok (.aload_n 0, 1) := by decide +kernel
theorem d_Md_throwsNow_17 : decode b_Md_throwsNow 17 = .ok (.getfield 88, 3) := by decide +kernel
theorem d_Md_throwsNow_20 : decode b_Md_throwsNow 20 = .ok (.ifCond .ne (7), 3) := by decide +kernel
theorem d_Md_throwsNow_23 : decode b_Md_throwsNow 23 = .ok (.iconst (1), 1) := by decide +kernel
theorem d_Md_throwsNow_24 : decode b_Md_throwsNow 24 = .ok (.goto (4), 3) := by decide +kernel
theorem d_Md_throwsNow_27 : decode b_Md_throwsNow 27 = .ok (.iconst (0), 1) := by decide +kernel
theorem d_Md_throwsNow_28 : decode b_Md_throwsNow 28 = .ok (.ireturn, 1) := by decide +kernel
theorem d_Md_sumAll_0 : decode b_Md_sumAll 0 = .ok (.iconst (0), 1) := by decide +kernel
theorem d_Md_sumAll_1 : decode b_Md_sumAll 1 = .ok (.istore_n 1, 1) := by decide +kernel
theorem d_Md_sumAll_2 : decode b_Md_sumAll 2 = .ok (.iload_n 1, 1) := by decide +kernel
theorem d_Md_sumAll_3 : decode b_Md_sumAll 3 = .ok (.iconst (1), 1) := by decide +kernel
theorem d_Md_sumAll_4 : decode b_Md_sumAll 4 = .ok (.aload_n 0, 1) := by decide +kernel
theorem d_Md_sumAll_5 : decode b_Md_sumAll 5 = .ok (.getfield 63, 3) := by decide +kernel
theorem d_Md_sumAll_8 : decode b_Md_sumAll 8 = .ok (.ishl, 1) := by decide +kernel
theorem d_Md_sumAll_9 : decode b_Md_sumAll 9 = .ok (.if_icmp .ge (91), 3) := by decide +kernel
theorem d_Md_sumAll_12 : decode b_Md_sumAll 12 = .ok (.aload_n 0, 1) := by decide +kernel
theorem d_Md_sumAll_13 : decode b_Md_sumAll 13 = .ok (.getfield 44, 3) := by decide +kernel
theorem d_Md_sumAll_16 : decode b_Md_sumAll 16 = .ok (.iload_n 1, 1) := by decide +kernel
theorem d_Md_sumAll_17 : decode b_Md_sumAll 17 = .ok (.lconst 0, 1) := by decide +kernel
theorem d_Md_sumAll_18 : decode b_Md_sumAll 18 = .ok (.lastore, 1) := by decide +kernel
theorem d_Md_sumAll_19 : decode b_Md_sumAll 19 = .ok (.iconst (1), 1) := by decide +kernel
theorem d_Md_sumAll_20 : decode b_Md_sumAll 20 = .ok (.istore_n 2, 1) := by decide +kernel
theorem d_Md_sumAll_21 : decode b_Md_sumAll 21 = .ok (.iload_n 2, 1) := by decide +kernel
theorem d_Md_sumAll_22 : decode b_Md_sumAll 22 = .ok (.aload_n 0, 1) := by decide +kernel
theorem d_Md_sumAll_23 : decode b_Md_sumAll 23 = .ok (.getfield 88, 3) := by decide +kernel
theorem d_Md_sumAll_26 : decode b_Md_sumAll 26 = .ok (.if_icmp .gt (68), 3) := by decide +kernel
theorem d_Md_sumAll_29 : decode b_Md_sumAll 29 = .ok (.iconst (0), 1) := by decide +kernel
theorem d_Md_sumAll_30 : decode b_Md_sumAll 30 = .ok (.istore_n 3, 1) := by decide +kernel
theorem d_Md_sumAll_31 : decode b_Md_sumAll 31 = .ok (.iload_n 3, 1) := by decide +kernel
theorem d_Md_sumAll_32 : decode b_Md_sumAll 32 = .ok (.aload_n 0, 1) := by decide +kernel
theorem d_Md_sumAll_33 : decode b_Md_sumAll 33 = .ok (.getfield 63, 3) := by decide +kernel
theorem d_Md_sumAll_36 : decode b_Md_sumAll 36 = .ok (.if_icmp .ge (39), 3) := by decide +kernel
theorem d_Md_sumAll_39 : decode b_Md_sumAll 39 = .ok (.aload_n 0, 1) := by decide +kernel
theorem d_Md_sumAll_40 : decode b_Md_sumAll 40 = .ok (.getfield 41, 3) := by decide +kernel
theorem d_Md_sumAll_43 : decode b_Md_sumAll 43 = .ok (.iload_n 3, 1) := by decide +kernel
theorem d_Md_sumAll_44 : decode b_Md_sumAll 44 = .ok (.aload_n 0, 1) := by decide +kernel
theorem d_Md_sumAll_45 : decode b_Md_sumAll 45 = .ok (.getfield 38, 3) := by decide +kernel
theorem d_Md_sumAll_48 : decode b_Md_sumAll 48 = .ok (.bipush (6), 2) := by decide +kernel
theorem d_Md_sumAll_50 : decode b_Md_sumAll 50 = .ok (.iload_n 1, 1) := by decide +kernel
theorem d_Md_sumAll_51 : decode b_Md_sumAll 51 = .ok (.iload_n 3, 1) := by decide +kernel
theorem d_Md_sumAll_52 : decode b_Md_sumAll 52 = .ok (.ishr, 1) := by decide +kernel
theorem d_Md_sumAll_53 : decode b_Md_sumAll 53 = .ok (.iconst (1), 1) := by decide +kernel
theorem d_Md_sumAll_54 : decode b_Md_sumAll 54 = .ok (.iand, 1) := by decide +kernel
theorem d_Md_sumAll_55 : decode b_Md_sumAll 55 = .ok (.iconst (1), 1) := by decide +kernel
theorem d_Md_sumAll_56 : decode b_Md_sumAll 56 = .ok (.if_icmp .ne (7), 3) := by decide +kernel
theorem d_Md_sumAll_59 : decode b_Md_sumAll 59 = .ok (.iconst (0), 1) := by decide +kernel
theorem d_Md_sumAll_60 : decode b_Md_sumAll 60 = .ok (.goto (4), 3) := by decide +kernel
theorem d_Md_sumAll_63 : decode b_Md_sumAll 63 = .ok (.iload_n 2, 1) := by decide +kernel
theorem d_Md_sumAll_64 : decode b_Md_sumAll 64 = .ok (.imul, 1) := by decide +kernel
theorem d_Md_sumAll_65 : decode b_Md_sumAll 65 = .ok (.iload_n 3, 1) := by decide +kernel
theorem d_Md_sumAll_66 : decode b_Md_sumAll 66 = .ok (.iadd, 1) := by decide +kernel
theorem d_Md_sumAll_67 : decode b_Md_sumAll 67 = .ok (.iaload, 1) := by decide +kernel
theorem d_Md_sumAll_68 : decode b_Md_sumAll 68 = .ok (.iastore, 1) := by decide +kernel
theorem d_Md_sumAll_69 : decode b_Md_sumAll 69 = .ok (.iinc 3 (1), 3) := by decide +kernel
theorem d_Md_sumAll_72 : decode b_Md_sumAll 72 = .ok (.goto (-41), 3) := by decide +kernel
theorem d_Md_sumAll_75 : decode b_Md_sumAll 75 = .ok (.aload_n 0, 1) := by decide +kernel
theorem d_Md_sumAll_76 : decode b_Md_sumAll 76 = .ok (.getfield 44, 3) := by decide +kernel
theorem d_Md_sumAll_79 : decode b_Md_sumAll 79 = .ok (.iload_n 1, 1) := by decide +kernel
theorem d_Md_sumAll_80 : decode b_Md_sumAll 80 = .ok (.dup2, 1) := by decide +kernel
theorem d_Md_sumAll_81 : decode b_Md_sumAll 81 = .ok (.laload, 1) := by decide +kernel
theorem d_Md_sumAll_82 : decode b_Md_sumAll 82 = .ok (.aload_n 0, 1) := by decide +kernel
theorem d_Md_sumAll_83 : decode b_Md_sumAll 83 = .ok (.invokevirtual 97, 3) := by decide +kernel
theorem d_Md_sumAll_86 : decode b_Md_sumAll 86 = .ok (.ladd, 1) := by decide +kernel
theorem d_Md_sumAll_87 : decode b_Md_sumAll 87 = .ok (.lastore, 1) := by decide +kernel
theorem d_Md_sumAll_88 : decode b_Md_sumAll 88 = .ok (.iinc 2 (1), 3) := by decide +kernel
theorem d_Md_sumAll_91 : decode b_Md_sumAll 91 = .ok (.goto (-70), 3) := by decide +kernel
theorem d_Md_sumAll_94 : decode b_Md_sumAll 94 = .ok (.iinc 1 (1), 3) := by decide +kernel
theorem d_Md_sumAll_97 : decode b_Md_sumAll 97 = .ok (.goto (-95), 3) := by decide +kernel
theorem d_Md_sumAll_100 : decode b_Md_sumAll 100 = .ok (.return_, 1) := by decide +kernel
theorem d_Md_part_0 : decode b_Md_part 0 = .ok (.lload_n 0, 1) := by decide +kernel
theorem d_Md_part_1 : decode b_Md_part 1 = .ok (.lconst 0, 1) := by decide +kernel
theorem d_Md_part_2 : decode b_Md_part 2 = .ok (.lcmp, 1) := by decide +kernel
theorem d_Md_part_3 : decode b_Md_part 3 = .ok (.ifCond .ge (8), 3) := by decide +kernel
theorem d_Md_part_6 : decode b_Md_part 6 = .ok (.lload_n 0, 1) := by decide +kernel
theorem d_Md_part_7 : decode b_Md_part 7 = .ok (.lneg, 1) := by decide +kernel
theorem d_Md_part_8 : decode b_Md_part 8 = .ok (.goto (4), 3) := by decide +kernel
theorem d_Md_part_11 : decode b_Md_part 11 = .ok (.lload_n 0, 1) := by decide +kernel
theorem d_Md_part_12 : decode b_Md_part 12 = .ok (.lstore 5, 2) := by decide +kernel
theorem d_Md_part_14 : decode b_Md_part 14 = .ok (.lload_n 2, 1) := by decide +kernel
theorem d_Md_part_15 : decode b_Md_part 15 = .ok (.lstore 7, 2) := by decide +kernel
theorem d_Md_part_17 : decode b_Md_part 17 = .ok (.lload 7, 2) := by decide +kernel
theorem d_Md_part_19 : decode b_Md_part 19 = .ok (.lconst 0, 1) := by decide +kernel
theorem d_Md_part_20 : decode b_Md_part 20 = .ok (.lcmp, 1) := by decide +kernel
theorem d_Md_part_21 : decode b_Md_part 21 = .ok (.ifCond .eq (21), 3) := by decide +kernel
theorem d_Md_part_24 : decode b_Md_part 24 = .ok (.lload 5, 2) := by decide +kernel
theorem d_Md_part_26 : decode b_Md_part 26 = .ok (.lload 7, 2) := by decide +kernel
theorem d_Md_part_28 : decode b_Md_part 28 = .ok (.lrem, 1) := by decide +kernel
theorem d_Md_part_29 : decode b_Md_part 29 = .ok (.lstore 9, 2) := by decide +kernel
theorem d_Md_part_31 : decode b_Md_part 31 = .ok (.lload 7, 2) := by decide +kernel
theorem d_Md_part_33 : decode b_Md_part 33 = .ok (.lstore 5, 2) := by decide +kernel
theorem d_Md_part_35 : decode b_Md_part 35 = .ok (.lload 9, 2) := by decide +kernel
theorem d_Md_part_37 : decode b_Md_part 37 = .ok (.lstore 7, 2) := by decide +kernel
theorem d_Md_part_39 : decode b_Md_part 39 = .ok (.goto (-22), 3) := by decide +kernel
theorem d_Md_part_42 : decode b_Md_part 42 = .ok (.iload 4, 2) := by decide +kernel
theorem d_Md_part_44 : decode b_Md_part 44 = .ok (.ifCond .ne (10), 3) := by decide +kernel
theorem d_Md_part_47 : decode b_Md_part 47 = .ok (.lload_n 0, 1) := by decide +kernel
theorem d_Md_part_48 : decode b_Md_part 48 = .ok (.lload 5, 2) := by decide +kernel
theorem d_Md_part_50 : decode b_Md_part 50 = .ok (.ldiv, 1) := by decide +kernel
theorem d_Md_part_51 : decode b_Md_part 51 = .ok (.goto (7), 3) := by decide +kernel
theorem d_Md_part_54 : decode b_Md_part 54 = .ok (.lload_n 2, 1) := by decide +kernel
theorem d_Md_part_55 : decode b_Md_part 55 = .ok (.lload 5, 2) := by decide +kernel
theorem d_Md_part_57 : decode b_Md_part 57 = .ok (.ldiv, 1) := by decide +kernel
theorem d_Md_part_58 : decode b_Md_part 58 = .ok (.lreturn, 1) := by decide +kernel
theorem d_Md_share_0 : decode b_Md_share 0 = .ok (.aload_n 0, 1) := by decide +kernel
theorem d_Md_share_1 : decode b_Md_share 1 = .ok (.iconst (0), 1) := by decide +kernel
theorem d_Md_share_2 : decode b_Md_share 2 = .ok (.putfield 71, 3) := by decide +kernel
theorem d_Md_share_5 : decode b_Md_share 5 = .ok (.aload_n 0, 1) := by decide +kernel
theorem d_Md_share_6 : decode b_Md_share 6 = .ok (.iload_n 1, 1) := by decide +kernel
theorem d_Md_share_7 : decode b_Md_share 7 = .ok (.invokevirtual 81, 3) := by decide +kernel
theorem d_Md_share_10 : decode b_Md_share 10 = .ok (.ifCond .eq (21), 3) := by decide +kernel
theorem d_Md_share_13 : decode b_Md_share 13 = .ok (.iload_n 2, 1) := by decide +kernel
theorem d_Md_share_14 : decode b_Md_share 14 = .ok (.iconst (0), 1) := by decide +kernel
theorem d_Md_share_15 : decode b_Md_share 15 = .ok (.iconst (1), 1) := by decide +kernel
theorem d_Md_share_16 : decode b_Md_share 16 = .ok (.invokestatic 74, 3) := by decide +kernel
theorem d_Md_share_19 : decode b_Md_share 19 = .ok (.ifCond .eq (12), 3) := by decide +kernel
theorem d_Md_share_22 : decode b_Md_share 22 = .ok (.iload_n 3, 1) := by decide +kernel
theorem d_Md_share_23 : decode b_Md_share 23 = .ok (.iconst (0), 1) := by decide +kernel
theorem d_Md_share_24 : decode b_Md_share 24 = .ok (.iconst (1), 1) := by decide +kernel
theorem d_Md_share_25 : decode b_Md_share 25 = .ok (.invokestatic 74, 3) := by decide +kernel
theorem d_Md_share_28 : decode b_Md_share 28 = .ok (.ifCond .ne (7), 3) := by decide +kernel
theorem d_Md_share_31 : decode b_Md_share 31 = .ok (.ldc2_w 91, 3) := by decide +kernel
theorem d_Md_share_34 : decode b_Md_share 34 = .ok (.lreturn, 1) := by decide +kernel
theorem d_Md_share_35 : decode b_Md_share 35 = .ok (.aload_n 0, 1) := by decide +kernel
theorem d_Md_share_36 : decode b_Md_share 36 = .ok (.invokevirtual 101, 3) := by decide +kernel
theorem d_Md_share_39 : decode b_Md_share 39 = .ok (.ifCond .eq (5), 3) := by decide +kernel
theorem d_Md_share_42 : decode b_Md_share 42 = .ok (.lconst 0, 1) := by decide +kernel
theorem d_Md_share_43 : decode b_Md_share 43 = .ok (.lreturn, 1) := by decide +kernel
theorem d_Md_share_44 : decode b_Md_share 44 = .ok (.aload_n 0, 1) := by decide +kernel
theorem d_Md_share_45 : decode b_Md_share 45 = .ok (.invokevirtual 105, 3) := by decide +kernel
theorem d_Md_share_48 : decode b_Md_share 48 = .ok (.aload_n 0, 1) := by decide +kernel
theorem d_Md_share_49 : decode b_Md_share 49 = .ok (.aload_n 0, 1) := by decide +kernel
theorem d_Md_share_50 : decode b_Md_share 50 = .ok (.getfield 32, 3) := by decide +kernel
theorem d_Md_share_53 : decode b_Md_share 53 = .ok (.iload_n 1, 1) := by decide +kernel
theorem d_Md_share_54 : decode b_Md_share 54 = .ok (.iaload, 1) := by decide +kernel
theorem d_Md_share_55 : decode b_Md_share 55 = .ok (.invokevirtual 115, 3) := by decide +kernel
theorem d_Md_share_58 : decode b_Md_share 58 = .ok (.istore 4, 2) := by decide +kernel
theorem d_Md_share_60 : decode b_Md_share 60 = .ok (.iload_n 2, 1) := by decide +kernel
theorem d_Md_share_61 : decode b_Md_share 61 = .ok (.ifCond .ne (12), 3) := by decide +kernel
theorem d_Md_share_64 : decode b_Md_share 64 = .ok (.aload_n 0, 1) := by decide +kernel
theorem d_Md_share_65 : decode b_Md_share 65 = .ok (.iload 4, 2) := by decide +kernel
theorem d_Md_share_67 : decode b_Md_share 67 = .ok (.invokevirtual 132, 3) := by decide +kernel
theorem d_Md_share_70 : decode b_Md_share 70 = .ok (.goto (9), 3) := by decide +kernel
theorem d_Md_share_73 : decode b_Md_share 73 = .ok (.aload_n 0, 1) := by decide +kernel
theorem d_Md_share_74 : decode b_Md_share 74 = .ok (.iload 4, 2) := by decide +kernel
theorem d_Md_share_76 : decode b_Md_share 76 = .ok (.invokevirtual 136, 3) := by decide +kernel
theorem d_Md_share_79 : decode b_Md_share 79 = .ok (.lstore 5, 2) := by decide +kernel
theorem d_Md_share_81 : decode b_Md_share 81 = .ok (.lload 5, 2) := by decide +kernel
theorem d_Md_share_83 : decode b_Md_share 83 = .ok (.aload_n 0, 1) := by decide +kernel
theorem d_Md_share_84 : decode b_Md_share 84 = .ok (.getfield 88, 3) := by decide +kernel
theorem d_Md_share_87 : decode b_Md_share 87 = .ok (.i2l, 1) := by decide +kernel
theorem d_Md_share_88 : decode b_Md_share 88 = .ok (.iload_n 2, 1) := by decide +kernel
theorem d_Md_share_89 : decode b_Md_share 89 = .ok (.ifCond .ne (10), 3) := by decide +kernel
theorem d_Md_share_92 : decode b_Md_share 92 = .ok (.aload_n 0, 1) := by decide +kernel
theorem d_Md_share_93 : decode b_Md_share 93 = .ok (.invokevirtual 123, 3) := by decide +kernel
theorem d_Md_share_96 : decode b_Md_share 96 = .ok (.goto (11), 3) := by decide +kernel
theorem d_Md_share_99 : decode b_Md_share 99 = .ok (.iconst (1), 1) := by decide +kernel
theorem d_Md_share_100 : decode b_Md_share 100 = .ok (.aload_n 0, 1) := by decide +kernel
theorem d_Md_share_101 : decode b_Md_share 101 = .ok (.getfield 112, 3) := by decide +kernel
theorem d_Md_share_104 : decode b_Md_share 104 = .ok (.iconst (1), 1) := by decide +kernel
theorem d_Md_share_105 : decode b_Md_share 105 = .ok (.isub, 1) := by decide +kernel
theorem d_Md_share_106 : decode b_Md_share 106 = .ok (.ishl, 1) := by decide +kernel
theorem d_Md_share_107 : decode b_Md_share 107 = .ok (.i2l, 1) := by decide +kernel
theorem d_Md_share_108 : decode b_Md_share 108 = .ok (.lmul, 1) := by decide +kernel
theorem d_Md_share_109 : decode b_Md_share 109 = .ok (.iload_n 3, 1) := by decide +kernel
theorem d_Md_share_110 : decode b_Md_share 110 = .ok (.invokestatic 108, 3) := by decide +kernel
theorem d_Md_share_113 : decode b_Md_share 113 = .ok (.lreturn, 1) := by decide +kernel
theorem d_Md_groupBits_0 : decode b_Md_groupBits 0 = .ok (.iconst (0), 1) := by decide +kernel
theorem d_Md_groupBits_1 : decode b_Md_groupBits 1 = .ok (.istore_n 2, 1) := by decide +kernel
theorem d_Md_groupBits_2 : decode b_Md_groupBits 2 = .ok (.iconst (0), 1) := by decide +kernel
theorem d_Md_groupBits_3 : decode b_Md_groupBits 3 = .ok (.istore_n 3, 1) := by decide +kernel
theorem d_Md_groupBits_4 : decode b_Md_groupBits 4 = .ok (.iload_n 3, 1) := by decide +kernel
theorem d_Md_groupBits_5 : decode b_Md_groupBits 5 = .ok (.aload_n 0, 1) := by decide +kernel
theorem d_Md_groupBits_6 : decode b_Md_groupBits 6 = .ok (.getfield 63, 3) := by decide +kernel
theorem d_Md_groupBits_9 : decode b_Md_groupBits 9 = .ok (.if_icmp .ge (29), 3) := by decide +kernel
theorem d_Md_groupBits_12 : decode b_Md_groupBits 12 = .ok (.iload_n 2, 1) := by decide +kernel
theorem d_Md_groupBits_13 : decode b_Md_groupBits 13 = .ok (.aload_n 0, 1) := by decide +kernel
theorem d_Md_groupBits_14 : decode b_Md_groupBits 14 = .ok (.getfield 32, 3) := by decide +kernel
theorem d_Md_groupBits_17 : decode b_Md_groupBits 17 = .ok (.iload_n 3, 1) := by decide +kernel
theorem d_Md_groupBits_18 : decode b_Md_groupBits 18 = .ok (.iaload, 1) := by decide +kernel
theorem d_Md_groupBits_19 : decode b_Md_groupBits 19 = .ok (.iload_n 1, 1) := by decide +kernel
theorem d_Md_groupBits_20 : decode b_Md_groupBits 20 = .ok (.if_icmp .ne (9), 3) := by decide +kernel
theorem d_Md_groupBits_23 : decode b_Md_groupBits 23 = .ok (.iconst (1), 1) := by decide +kernel
theorem d_Md_groupBits_24 : decode b_Md_groupBits 24 = .ok (.iload_n 3, 1) := by decide +kernel
theorem d_Md_groupBits_25 : decode b_Md_groupBits 25 = .ok (.ishl, 1) := by decide +kernel
theorem d_Md_groupBits_26 : decode b_Md_groupBits 26 = .ok (.goto (4), 3) := by decide +kernel
theorem d_Md_groupBits_29 : decode b_Md_groupBits 29 = .ok (.iconst (0), 1) := by decide +kernel
theorem d_Md_groupBits_30 : decode b_Md_groupBits 30 = .ok (.ior, 1) := by decide +kernel
theorem d_Md_groupBits_31 : decode b_Md_groupBits 31 = .ok (.istore_n 2, 1) := by decide +kernel
theorem d_Md_groupBits_32 : decode b_Md_groupBits 32 = .ok (.iinc 3 (1), 3) := by decide +kernel
theorem d_Md_groupBits_35 : decode b_Md_groupBits 35 = .ok (.goto (-31), 3) := by decide +kernel
theorem d_Md_groupBits_38 : decode b_Md_groupBits 38 = .ok (.iload_n 2, 1) := by decide +kernel
theorem d_Md_groupBits_39 : decode b_Md_groupBits 39 = .ok (.ireturn, 1) := by decide +kernel
theorem d_Md_shareSum_0 : decode b_Md_shareSum 0 = .ok (.aload_n 0, 1) := by decide +kernel
theorem d_Md_shareSum_1 : decode b_Md_shareSum 1 = .ok (.iconst (0), 1) := by decide +kernel
theorem d_Md_shareSum_2 : decode b_Md_shareSum 2 = .ok (.iconst (0), 1) := by decide +kernel
theorem d_Md_shareSum_3 : decode b_Md_shareSum 3 = .ok (.invokevirtual 119, 3) := by decide +kernel
theorem d_Md_shareSum_6 : decode b_Md_shareSum 6 = .ok (.lconst 0, 1) := by decide +kernel
theorem d_Md_shareSum_7 : decode b_Md_shareSum 7 = .ok (.lstore_n 2, 1) := by decide +kernel
theorem d_Md_shareSum_8 : decode b_Md_shareSum 8 = .ok (.iconst (0), 1) := by decide +kernel
theorem d_Md_shareSum_9 : decode b_Md_shareSum 9 = .ok (.istore 4, 2) := by decide +kernel
theorem d_Md_shareSum_11 : decode b_Md_shareSum 11 = .ok (.iload 4, 2) := by decide +kernel
theorem d_Md_shareSum_13 : decode b_Md_shareSum 13 = .ok (.aload_n 0, 1) := by decide +kernel
theorem d_Md_shareSum_14 : decode b_Md_shareSum 14 = .ok (.invokevirtual 123, 3) := by decide +kernel
theorem d_Md_shareSum_17 : decode b_Md_shareSum 17 = .ok (.if_icmp .ge (42), 3) := by decide +kernel
theorem d_Md_shareSum_20 : decode b_Md_shareSum 20 = .ok (.aload_n 0, 1) := by decide +kernel
theorem d_Md_shareSum_21 : decode b_Md_shareSum 21 = .ok (.iload 4, 2) := by decide +kernel
theorem d_Md_shareSum_23 : decode b_Md_shareSum 23 = .ok (.invokevirtual 126, 3) := by decide +kernel
theorem d_Md_shareSum_26 : decode b_Md_shareSum 26 = .ok (.aload_n 0, 1) := by decide +kernel
theorem d_Md_shareSum_27 : decode b_Md_shareSum 27 = .ok (.iload_n 1, 1) := by decide +kernel
theorem d_Md_shareSum_28 : decode b_Md_shareSum 28 = .ok (.invokevirtual 129, 3) := by decide +kernel
theorem d_Md_shareSum_31 : decode b_Md_shareSum 31 = .ok (.istore 5, 2) := by decide +kernel
theorem d_Md_shareSum_33 : decode b_Md_shareSum 33 = .ok (.lload_n 2, 1) := by decide +kernel
theorem d_Md_shareSum_34 : decode b_Md_shareSum 34 = .ok (.aload_n 0, 1) := by decide +kernel
theorem d_Md_shareSum_35 : decode b_Md_shareSum 35 = .ok (.getfield 44, 3) := by decide +kernel
theorem d_Md_shareSum_38 : decode b_Md_shareSum 38 = .ok (.iload 5, 2) := by decide +kernel
theorem d_Md_shareSum_40 : decode b_Md_shareSum 40 = .ok (.iload_n 1, 1) := by decide +kernel
theorem d_Md_shareSum_41 : decode b_Md_shareSum 41 = .ok (.ior, 1) := by decide +kernel
theorem d_Md_shareSum_42 : decode b_Md_shareSum 42 = .ok (.laload, 1) := by decide +kernel
theorem d_Md_shareSum_43 : decode b_Md_shareSum 43 = .ok (.aload_n 0, 1) := by decide +kernel
theorem d_Md_shareSum_44 : decode b_Md_shareSum 44 = .ok (.getfield 44, 3) := by decide +kernel
theorem d_Md_shareSum_47 : decode b_Md_shareSum 47 = .ok (.iload 5, 2) := by decide +kernel
theorem d_Md_shareSum_49 : decode b_Md_shareSum 49 = .ok (.laload, 1) := by decide +kernel
theorem d_Md_shareSum_50 : decode b_Md_shareSum 50 = .ok (.lsub, 1) := by decide +kernel
theorem d_Md_shareSum_51 : decode b_Md_shareSum 51 = .ok (.ladd, 1) := by decide +kernel
theorem d_Md_shareSum_52 : decode b_Md_shareSum 52 = .ok (.lstore_n 2, 1) := by decide +kernel
theorem d_Md_shareSum_53 : decode b_Md_shareSum 53 = .ok (.iinc 4 (1), 3) := by decide +kernel
theorem d_Md_shareSum_56 : decode b_Md_shareSum 56 = .ok (.goto (-45), 3) := by decide +kernel
theorem d_Md_shareSum_59 : decode b_Md_shareSum 59 = .ok (.lload_n 2, 1) := by decide +kernel
theorem d_Md_shareSum_60 : decode b_Md_shareSum 60 = .ok (.lreturn, 1) := by decide +kernel
theorem d_Md_listParts_0 : decode b_Md_listParts 0 = .ok (.aload_n 0, 1) := by decide +kernel
theorem d_Md_listParts_1 : decode b_Md_listParts 1 = .ok (.iconst (0), 1) := by decide +kernel
theorem d_Md_listParts_2 : decode b_Md_listParts 2 = .ok (.putfield 112, 3) := by decide +kernel
theorem d_Md_listParts_5 : decode b_Md_listParts 5 = .ok (.iload_n 1, 1) := by decide +kernel
theorem d_Md_listParts_6 : decode b_Md_listParts 6 = .ok (.ifCond .eq (17), 3) := by decide +kernel
theorem d_Md_listParts_9 : decode b_Md_listParts 9 = .ok (.aload_n 0, 1) := by decide +kernel
theorem d_Md_listParts_10 : decode b_Md_listParts 10 = .ok (.getfield 48, 3) := by decide +kernel
theorem d_Md_listParts_13 : decode b_Md_listParts 13 = .ok (.iconst (0), 1) := by decide +kernel
theorem d_Md_listParts_14 : decode b_Md_listParts 14 = .ok (.iload_n 1, 1) := by decide +kernel
theorem d_Md_listParts_15 : decode b_Md_listParts 15 = .ok (.iload_n 2, 1) := by decide +kernel
theorem d_Md_listParts_16 : decode b_Md_listParts 16 = .ok (.ior, 1) := by decide +kernel
theorem d_Md_listParts_17 : decode b_Md_listParts 17 = .ok (.iastore, 1) := by decide +kernel
theorem d_Md_listParts_18 : decode b_Md_listParts 18 = .ok (.aload_n 0, 1) := by decide +kernel
theorem d_Md_listParts_19 : decode b_Md_listParts 19 = .ok (.iconst (1), 1) := by decide +kernel
theorem d_Md_listParts_20 : decode b_Md_listParts 20 = .ok (.putfield 112, 3) := by decide +kernel
theorem d_Md_listParts_23 : decode b_Md_listParts 23 = .ok (.iconst (0), 1) := by decide +kernel
theorem d_Md_listParts_24 : decode b_Md_listParts 24 = .ok (.istore_n 3, 1) := by decide +kernel
theorem d_Md_listParts_25 : decode b_Md_listParts 25 = .ok (.iload_n 3, 1) := by decide +kernel
theorem d_Md_listParts_26 : decode b_Md_listParts 26 = .ok (.aload_n 0, 1) := by decide +kernel
theorem d_Md_listParts_27 : decode b_Md_listParts 27 = .ok (.getfield 63, 3) := by decide +kernel
theorem d_Md_listParts_30 : decode b_Md_listParts 30 = .ok (.if_icmp .ge (51), 3) := by decide +kernel
theorem d_Md_listParts_33 : decode b_Md_listParts 33 = .ok (.aload_n 0, 1) := by decide +kernel
theorem d_Md_listParts_34 : decode b_Md_listParts 34 = .ok (.iload_n 3, 1) := by decide +kernel
theorem d_Md_listParts_35 : decode b_Md_listParts 35 = .ok (.invokevirtual 115, 3) := by decide +kernel
theorem d_Md_listParts_38 : decode b_Md_listParts 38 = .ok (.istore 4, 2) := by decide +kernel
theorem d_Md_listParts_40 : decode b_Md_listParts 40 = .ok (.iload 4, 2) := by decide +kernel
theorem d_Md_listParts_42 : decode b_Md_listParts 42 = .ok (.ifCond .eq (33), 3) := by decide +kernel
theorem d_Md_listParts_45 : decode b_Md_listParts 45 = .ok (.iload 4, 2) := by decide +kernel
theorem d_Md_listParts_47 : decode b_Md_listParts 47 = .ok (.iload_n 1, 1) := by decide +kernel
theorem d_Md_listParts_48 : decode b_Md_listParts 48 = .ok (.iload_n 2, 1) := by decide +kernel
theorem d_Md_listParts_49 : decode b_Md_listParts 49 = .ok (.ior, 1) := by decide +kernel
theorem d_Md_listParts_50 : decode b_Md_listParts 50 = .ok (.iand, 1) := by decide +kernel
theorem d_Md_listParts_51 : decode b_Md_listParts 51 = .ok (.ifCond .ne (24), 3) := by decide +kernel
theorem d_Md_listParts_54 : decode b_Md_listParts 54 = .ok (.aload_n 0, 1) := by decide +kernel
theorem d_Md_listParts_55 : decode b_Md_listParts 55 = .ok (.getfield 48, 3) := by decide +kernel
theorem d_Md_listParts_58 : decode b_Md_listParts 58 = .ok (.aload_n 0, 1) := by decide +kernel
theorem d_Md_listParts_59 : decode b_Md_listParts 59 = .ok (.getfield 112, 3) := by decide +kernel
theorem d_Md_listParts_62 : decode b_Md_listParts 62 = .ok (.iload 4, 2) := by decide +kernel
theorem d_Md_listParts_64 : decode b_Md_listParts 64 = .ok (.iastore, 1) := by decide +kernel
theorem d_Md_listParts_65 : decode b_Md_listParts 65 = .ok (.aload_n 0, 1) := by decide +kernel
theorem d_Md_listParts_66 : decode b_Md_listParts 66 = .ok (.dup, 1) := by decide +kernel
theorem d_Md_listParts_67 : decode b_Md_listParts 67 = .ok (.getfield 112, 3) := by decide +kernel
theorem d_Md_listParts_70 : decode b_Md_listParts 70 = .ok (.iconst (1), 1) := by decide +kernel
theorem d_Md_listParts_71 : decode b_Md_listParts 71 = .ok (.iadd, 1) := by decide +kernel
theorem d_Md_listParts_72 : decode b_Md_listParts 72 = .ok (.putfield 112, 3) := by decide +kernel
theorem d_Md_listParts_75 : decode b_Md_listParts 75 = .ok (.iinc 3 (1), 3) := by decide +kernel
theorem d_Md_listParts_78 : decode b_Md_listParts 78 = .ok (.goto (-53), 3) := by decide +kernel
theorem d_Md_listParts_81 : decode b_Md_listParts 81 = .ok (.return_, 1) := by decide +kernel
theorem d_Md_orders_0 : decode b_Md_orders 0 = .ok (.iconst (1), 1) := by decide +kernel
theorem d_Md_orders_1 : decode b_Md_orders 1 = .ok (.istore_n 1, 1) := by decide +kernel
theorem d_Md_orders_2 : decode b_Md_orders 2 = .ok (.iconst (2), 1) := by decide +kernel
theorem d_Md_orders_3 : decode b_Md_orders 3 = .ok (.istore_n 2, 1) := by decide +kernel
theorem d_Md_orders_4 : decode b_Md_orders 4 = .ok (.iload_n 2, 1) := by decide +kernel
theorem d_Md_orders_5 : decode b_Md_orders 5 = .ok (.aload_n 0, 1) := by decide +kernel
theorem d_Md_orders_6 : decode b_Md_orders 6 = .ok (.getfield 112, 3) := by decide +kernel
theorem d_Md_orders_9 : decode b_Md_orders 9 = .ok (.if_icmp .gt (13), 3) := by decide +kernel
theorem d_Md_orders_12 : decode b_Md_orders 12 = .ok (.iload_n 1, 1) := by decide +kernel
theorem d_Md_orders_13 : decode b_Md_orders 13 = .ok (.iload_n 2, 1) := by decide +kernel
theorem d_Md_orders_14 : decode b_Md_orders 14 = .ok (.imul, 1) := by decide +kernel
theorem d_Md_orders_15 : decode b_Md_orders 15 = .ok (.istore_n 1, 1) := by decide +kernel
theorem d_Md_orders_16 : decode b_Md_orders 16 = .ok (.iinc 2 (1), 3) := by decide +kernel
theorem d_Md_orders_19 : decode b_Md_orders 19 = .ok (.goto (-15), 3) := by decide +kernel
theorem d_Md_orders_22 : decode b_Md_orders 22 = .ok (.iload_n 1, 1) := by decide +kernel
theorem d_Md_orders_23 : decode b_Md_orders 23 = .ok (.ireturn, 1) := by decide +kernel
theorem d_Md_layOrder_0 : decode b_Md_layOrder 0 = .ok (.iload_n 1, 1) := by decide +kernel
theorem d_Md_layOrder_1 : decode b_Md_layOrder 1 = .ok (.istore_n 2, 1) := by decide +kernel
theorem d_Md_layOrder_2 : decode b_Md_layOrder 2 = .ok (.iconst (0), 1) := by decide +kernel
theorem d_Md_layOrder_3 : decode b_Md_layOrder 3 = .ok (.istore_n 3, 1) := by decide +kernel
theorem d_Md_layOrder_4 : decode b_Md_layOrder 4 = .ok (.iconst (0), 1) := by decide +kernel
theorem d_Md_layOrder_5 : decode b_Md_layOrder 5 = .ok (.istore 4, 2) := by decide +kernel
theorem d_Md_layOrder_7 : decode b_Md_layOrder 7 = .ok (.iload 4, 2) := by decide +kernel
theorem d_Md_layOrder_9 : decode b_Md_layOrder 9 = .ok (.aload_n 0, 1) := by decide +kernel
theorem d_Md_layOrder_10 : decode b_Md_layOrder 10 = .ok (.getfield 112, 3) := by decide +kernel
theorem d_Md_layOrder_13 : decode b_Md_layOrder 13 = .ok (.if_icmp .ge (90), 3) := by decide +kernel
theorem d_Md_layOrder_16 : decode b_Md_layOrder 16 = .ok (.iload_n 2, 1) := by decide +kernel
theorem d_Md_layOrder_17 : decode b_Md_layOrder 17 = .ok (.aload_n 0, 1) := by decide +kernel
theorem d_Md_layOrder_18 : decode b_Md_layOrder 18 = .ok (.getfield 112, 3) := by decide +kernel
theorem d_Md_layOrder_21 : decode b_Md_layOrder 21 = .ok (.iload 4, 2) := by decide +kernel
theorem d_Md_layOrder_23 : decode b_Md_layOrder 23 = .ok (.isub, 1) := by decide +kernel
theorem d_Md_layOrder_24 : decode b_Md_layOrder 24 = .ok (.irem, 1) := by decide +kernel
theorem d_Md_layOrder_25 : decode b_Md_layOrder 25 = .ok (.istore 5, 2) := by decide +kernel
theorem d_Md_layOrder_27 : decode b_Md_layOrder 27 = .ok (.iload_n 2, 1) := by decide +kernel
theorem d_Md_layOrder_28 : decode b_Md_layOrder 28 = .ok (.aload_n 0, 1) := by decide +kernel
theorem d_Md_layOrder_29 : decode b_Md_layOrder 29 = .ok (.getfield 112, 3) := by decide +kernel
theorem d_Md_layOrder_32 : decode b_Md_layOrder 32 = .ok (.iload 4, 2) := by decide +kernel
theorem d_Md_layOrder_34 : decode b_Md_layOrder 34 = .ok (.isub, 1) := by decide +kernel
theorem d_Md_layOrder_35 : decode b_Md_layOrder 35 = .ok (.idiv, 1) := by decide +kernel
theorem d_Md_layOrder_36 : decode b_Md_layOrder 36 = .ok (.istore_n 2, 1) := by decide +kernel
theorem d_Md_layOrder_37 : decode b_Md_layOrder 37 = .ok (.iconst (0), 1) := by decide +kernel
theorem d_Md_layOrder_38 : decode b_Md_layOrder 38 = .ok (.istore 6, 2) := by decide +kernel
theorem d_Md_layOrder_40 : decode b_Md_layOrder 40 = .ok (.iload_n 3, 1) := by decide +kernel
theorem d_Md_layOrder_41 : decode b_Md_layOrder 41 = .ok (.iload 6, 2) := by decide +kernel
theorem d_Md_layOrder_43 : decode b_Md_layOrder 43 = .ok (.ishr, 1) := by decide +kernel
theorem d_Md_layOrder_44 : decode b_Md_layOrder 44 = .ok (.iconst (1), 1) := by decide +kernel
theorem d_Md_layOrder_45 : decode b_Md_layOrder 45 = .ok (.iand, 1) := by decide +kernel
theorem d_Md_layOrder_46 : decode b_Md_layOrder 46 = .ok (.iconst (1), 1) := by decide +kernel
theorem d_Md_layOrder_47 : decode b_Md_layOrder 47 = .ok (.if_icmp .eq (8), 3) := by decide +kernel
theorem d_Md_layOrder_50 : decode b_Md_layOrder 50 = .ok (.iload 5, 2) := by decide +kernel
theorem d_Md_layOrder_52 : decode b_Md_layOrder 52 = .ok (.ifCond .le (29), 3) := by decide +kernel
theorem d_Md_layOrder_55 : decode b_Md_layOrder 55 = .ok (.iload 5, 2) := by decide +kernel
theorem d_Md_layOrder_57 : decode b_Md_layOrder 57 = .ok (.iload_n 3, 1) := by decide +kernel
theorem d_Md_layOrder_58 : decode b_Md_layOrder 58 = .ok (.iload 6, 2) := by decide +kernel
theorem d_Md_layOrder_60 : decode b_Md_layOrder 60 = .ok (.ishr, 1) := by decide +kernel
theorem d_Md_layOrder_61 : decode b_Md_layOrder 61 = .ok (.iconst (1), 1) := by decide +kernel
theorem d_Md_layOrder_62 : decode b_Md_layOrder 62 = .ok (.iand, 1) := by decide +kernel
theorem d_Md_layOrder_63 : decode b_Md_layOrder 63 = .ok (.iconst (1), 1) := by decide +kernel
theorem d_Md_layOrder_64 : decode b_Md_layOrder 64 = .ok (.if_icmp .ne (7), 3) := by decide +kernel
theorem d_Md_layOrder_67 : decode b_Md_layOrder 67 = .ok (.iconst (0), 1) := by decide +kernel
theorem d_Md_layOrder_68 : decode b_Md_layOrder 68 = .ok (.goto (4), 3) := by decide +kernel
theorem d_Md_layOrder_71 : decode b_Md_layOrder 71 = .ok (.iconst (1), 1) := by decide +kernel
theorem d_Md_layOrder_72 : decode b_Md_layOrder 72 = .ok (.isub, 1) := by decide +kernel
theorem d_Md_layOrder_73 : decode b_Md_layOrder 73 = .ok (.istore 5, 2) := by decide +kernel
theorem d_Md_layOrder_75 : decode b_Md_layOrder 75 = .ok (.iinc 6 (1), 3) := by decide +kernel
theorem d_Md_layOrder_78 : decode b_Md_layOrder 78 = .ok (.goto (-38), 3) := by decide +kernel
theorem d_Md_layOrder_81 : decode b_Md_layOrder 81 = .ok (.iload_n 3, 1) := by decide +kernel
theorem d_Md_layOrder_82 : decode b_Md_layOrder 82 = .ok (.iconst (1), 1) := by decide +kernel
theorem d_Md_layOrder_83 : decode b_Md_layOrder 83 = .ok (.iload 6, 2) := by decide +kernel
theorem d_Md_layOrder_85 : decode b_Md_layOrder 85 = .ok (.ishl, 1) := by decide +kernel
theorem d_Md_layOrder_86 : decode b_Md_layOrder 86 = .ok (.ior, 1) := by decide +kernel
theorem d_Md_layOrder_87 : decode b_Md_layOrder 87 = .ok (.istore_n 3, 1) := by decide +kernel
theorem d_Md_layOrder_88 : decode b_Md_layOrder 88 = .ok (.aload_n 0, 1) := by decide +kernel
theorem d_Md_layOrder_89 : decode b_Md_layOrder 89 = .ok (.getfield 51, 3) := by decide +kernel
theorem d_Md_layOrder_92 : decode b_Md_layOrder 92 = .ok (.iload 4, 2) := by decide +kernel
theorem d_Md_layOrder_94 : decode b_Md_layOrder 94 = .ok (.iload 6, 2) := by decide +kernel
theorem d_Md_layOrder_96 : decode b_Md_layOrder 96 = .ok (.iastore, 1) := by decide +kernel
theorem d_Md_layOrder_97 : decode b_Md_layOrder 97 = .ok (.iinc 4 (1), 3) := by decide +kernel
theorem d_Md_layOrder_100 : decode b_Md_layOrder 100 = .ok (.goto (-93), 3) := by decide +kernel
theorem d_Md_layOrder_103 : decode b_Md_layOrder 103 = .ok (.return_, 1) := by decide +kernel
theorem d_Md_before_0 : decode b_Md_before 0 = .ok (.iconst (0), 1) := by decide +kernel
theorem d_Md_before_1 : decode b_Md_before 1 = .ok (.istore_n 2, 1) := by decide +kernel
theorem d_Md_before_2 : decode b_Md_before 2 = .ok (.iconst (0), 1) := by decide +kernel
theorem d_Md_before_3 : decode b_Md_before 3 = .ok (.istore_n 3, 1) := by decide +kernel
theorem d_Md_before_4 : decode b_Md_before 4 = .ok (.aload_n 0, 1) := by decide +kernel
theorem d_Md_before_5 : decode b_Md_before 5 = .ok (.getfield 48, 3) := by decide +kernel
theorem d_Md_before_8 : decode b_Md_before 8 = .ok (.aload_n 0, 1) := by decide +kernel
theorem d_Md_before_9 : decode b_Md_before 9 = .ok (.getfield 51, 3) := by decide +kernel
theorem d_Md_before_12 : decode b_Md_before 12 = .ok (.iload_n 3, 1) := by decide +kernel
theorem d_Md_before_13 : decode b_Md_before 13 = .ok (.iaload, 1) := by decide +kernel
theorem d_Md_before_14 : decode b_Md_before 14 = .ok (.iaload, 1) := by decide +kernel
theorem d_Md_before_15 : decode b_Md_before 15 = .ok (.iload_n 1, 1) := by decide +kernel
theorem d_Md_before_16 : decode b_Md_before 16 = .ok (.if_icmp .eq (23), 3) := by decide +kernel
theorem d_Md_before_19 : decode b_Md_before 19 = .ok (.iload_n 2, 1) := by decide +kernel
theorem d_Md_before_20 : decode b_Md_before 20 = .ok (.aload_n 0, 1) := by decide +kernel
theorem d_Md_before_21 : decode b_Md_before 21 = .ok (.getfield 48, 3) := by decide +kernel
theorem d_Md_before_24 : decode b_Md_before 24 = .ok (.aload_n 0, 1) := by decide +kernel
theorem d_Md_before_25 : decode b_Md_before 25 = .ok (.getfield 51, 3) := by decide +kernel
theorem d_Md_before_28 : decode b_Md_before 28 = .ok (.iload_n 3, 1) := by decide +kernel
theorem d_Md_before_29 : decode b_Md_before 29 = .ok (.iaload, 1) := by decide +kernel
theorem d_Md_before_30 : decode b_Md_before 30 = .ok (.iaload, 1) := by decide +kernel
theorem d_Md_before_31 : decode b_Md_before 31 = .ok (.ior, 1) := by decide +kernel
theorem d_Md_before_32 : decode b_Md_before 32 = .ok (.istore_n 2, 1) := by decide +kernel
theorem d_Md_before_33 : decode b_Md_before 33 = .ok (.iinc 3 (1), 3) := by decide +kernel
theorem d_Md_before_36 : decode b_Md_before 36 = .ok (.goto (-32), 3) := by decide +kernel
theorem d_Md_before_39 : decode b_Md_before 39 = .ok (.iload_n 2, 1) := by decide +kernel
theorem d_Md_before_40 : decode b_Md_before 40 = .ok (.ireturn, 1) := by decide +kernel
theorem d_Md_setSum_0 : decode b_Md_setSum 0 = .ok (.aload_n 0, 1) := by decide +kernel
theorem d_Md_setSum_1 : decode b_Md_setSum 1 = .ok (.iconst (0), 1) := by decide +kernel
theorem d_Md_setSum_2 : decode b_Md_setSum 2 = .ok (.iconst (0), 1) := by decide +kernel
theorem d_Md_setSum_3 : decode b_Md_setSum 3 = .ok (.invokevirtual 119, 3) := by decide +kernel
theorem d_Md_setSum_6 : decode b_Md_setSum 6 = .ok (.lconst 0, 1) := by decide +kernel
theorem d_Md_setSum_7 : decode b_Md_setSum 7 = .ok (.lstore_n 2, 1) := by decide +kernel
theorem d_Md_setSum_8 : decode b_Md_setSum 8 = .ok (.iconst (0), 1) := by decide +kernel
theorem d_Md_setSum_9 : decode b_Md_setSum 9 = .ok (.istore 4, 2) := by decide +kernel
theorem d_Md_setSum_11 : decode b_Md_setSum 11 = .ok (.iload 4, 2) := by decide +kernel
theorem d_Md_setSum_13 : decode b_Md_setSum 13 = .ok (.iconst (1), 1) := by decide +kernel
theorem d_Md_setSum_14 : decode b_Md_setSum 14 = .ok (.aload_n 0, 1) := by decide +kernel
theorem d_Md_setSum_15 : decode b_Md_setSum 15 = .ok (.getfield 112, 3) := by decide +kernel
theorem d_Md_setSum_18 : decode b_Md_setSum 18 = .ok (.ishl, 1) := by decide +kernel
theorem d_Md_setSum_19 : decode b_Md_setSum 19 = .ok (.if_icmp .ge (88), 3) := by decide +kernel
theorem d_Md_setSum_22 : decode b_Md_setSum 22 = .ok (.iconst (0), 1) := by decide +kernel
theorem d_Md_setSum_23 : decode b_Md_setSum 23 = .ok (.istore 5, 2) := by decide +kernel
theorem d_Md_setSum_25 : decode b_Md_setSum 25 = .ok (.iconst (0), 1) := by decide +kernel
theorem d_Md_setSum_26 : decode b_Md_setSum 26 = .ok (.istore 6, 2) := by decide +kernel
theorem d_Md_setSum_28 : decode b_Md_setSum 28 = .ok (.iload 6, 2) := by decide +kernel
theorem d_Md_setSum_30 : decode b_Md_setSum 30 = .ok (.aload_n 0, 1) := by decide +kernel
theorem d_Md_setSum_31 : decode b_Md_setSum 31 = .ok (.getfield 112, 3) := by decide +kernel
theorem d_Md_setSum_34 : decode b_Md_setSum 34 = .ok (.if_icmp .ge (36), 3) := by decide +kernel
theorem d_Md_setSum_37 : decode b_Md_setSum 37 = .ok (.iload 5, 2) := by decide +kernel
theorem d_Md_setSum_39 : decode b_Md_setSum 39 = .ok (.iload 4, 2) := by decide +kernel
theorem d_Md_setSum_41 : decode b_Md_setSum 41 = .ok (.iload 6, 2) := by decide +kernel
theorem d_Md_setSum_43 : decode b_Md_setSum 43 = .ok (.ishr, 1) := by decide +kernel
theorem d_Md_setSum_44 : decode b_Md_setSum 44 = .ok (.iconst (1), 1) := by decide +kernel
theorem d_Md_setSum_45 : decode b_Md_setSum 45 = .ok (.iand, 1) := by decide +kernel
theorem d_Md_setSum_46 : decode b_Md_setSum 46 = .ok (.iconst (1), 1) := by decide +kernel
theorem d_Md_setSum_47 : decode b_Md_setSum 47 = .ok (.if_icmp .ne (13), 3) := by decide +kernel
theorem d_Md_setSum_50 : decode b_Md_setSum 50 = .ok (.aload_n 0, 1) := by decide +kernel
theorem d_Md_setSum_51 : decode b_Md_setSum 51 = .ok (.getfield 48, 3) := by decide +kernel
theorem d_Md_setSum_54 : decode b_Md_setSum 54 = .ok (.iload 6, 2) := by decide +kernel
theorem d_Md_setSum_56 : decode b_Md_setSum 56 = .ok (.iaload, 1) := by decide +kernel
theorem d_Md_setSum_57 : decode b_Md_setSum 57 = .ok (.goto (4), 3) := by decide +kernel
theorem d_Md_setSum_60 : decode b_Md_setSum 60 = .ok (.iconst (0), 1) := by decide +kernel
theorem d_Md_setSum_61 : decode b_Md_setSum 61 = .ok (.ior, 1) := by decide +kernel
theorem d_Md_setSum_62 : decode b_Md_setSum 62 = .ok (.istore 5, 2) := by decide +kernel
theorem d_Md_setSum_64 : decode b_Md_setSum 64 = .ok (.iinc 6 (1), 3) := by decide +kernel
theorem d_Md_setSum_67 : decode b_Md_setSum 67 = .ok (.goto (-39), 3) := by decide +kernel
theorem d_Md_setSum_70 : decode b_Md_setSum 70 = .ok (.lload_n 2, 1) := by decide +kernel
theorem d_Md_setSum_71 : decode b_Md_setSum 71 = .ok (.iload 5, 2) := by decide +kernel
theorem d_Md_setSum_73 : decode b_Md_setSum 73 = .ok (.iload_n 1, 1) := by decide +kernel
theorem d_Md_setSum_74 : decode b_Md_setSum 74 = .ok (.iand, 1) := by decide +kernel
theorem d_Md_setSum_75 : decode b_Md_setSum 75 = .ok (.ifCond .ne (23), 3) := by decide +kernel
theorem d_Md_setSum_78 : decode b_Md_setSum 78 = .ok (.aload_n 0, 1) := by decide +kernel
theorem d_Md_setSum_79 : decode b_Md_setSum 79 = .ok (.getfield 44, 3) := by decide +kernel
theorem d_Md_setSum_82 : decode b_Md_setSum 82 = .ok (.iload 5, 2) := by decide +kernel
theorem d_Md_setSum_84 : decode b_Md_setSum 84 = .ok (.iload_n 1, 1) := by decide +kernel
theorem d_Md_setSum_85 : decode b_Md_setSum 85 = .ok (.ior, 1) := by decide +kernel
theorem d_Md_setSum_86 : decode b_Md_setSum 86 = .ok (.laload, 1) := by decide +kernel
theorem d_Md_setSum_87 : decode b_Md_setSum 87 = .ok (.aload_n 0, 1) := by decide +kernel
theorem d_Md_setSum_88 : decode b_Md_setSum 88 = .ok (.getfield 44, 3) := by decide +kernel
theorem d_Md_setSum_91 : decode b_Md_setSum 91 = .ok (.iload 5, 2) := by decide +kernel
theorem d_Md_setSum_93 : decode b_Md_setSum 93 = .ok (.laload, 1) := by decide +kernel
theorem d_Md_setSum_94 : decode b_Md_setSum 94 = .ok (.lsub, 1) := by decide +kernel
theorem d_Md_setSum_95 : decode b_Md_setSum 95 = .ok (.goto (4), 3) := by decide +kernel
theorem d_Md_setSum_98 : decode b_Md_setSum 98 = .ok (.lconst 0, 1) := by decide +kernel
theorem d_Md_setSum_99 : decode b_Md_setSum 99 = .ok (.ladd, 1) := by decide +kernel
theorem d_Md_setSum_100 : decode b_Md_setSum 100 = .ok (.lstore_n 2, 1) := by decide +kernel
theorem d_Md_setSum_101 : decode b_Md_setSum 101 = .ok (.iinc 4 (1), 3) := by decide +kernel
theorem d_Md_setSum_104 : decode b_Md_setSum 104 = .ok (.goto (-93), 3) := by decide +kernel
theorem d_Md_setSum_107 : decode b_Md_setSum 107 = .ok (.lload_n 2, 1) := by decide +kernel
theorem d_Md_setSum_108 : decode b_Md_setSum 108 = .ok (.lreturn, 1) := by decide +kernel
theorem d_Md_both_0 : decode b_Md_both 0 = .ok (.aload_n 0, 1) := by decide +kernel
theorem d_Md_both_1 : decode b_Md_both 1 = .ok (.iconst (0), 1) := by decide +kernel
theorem d_Md_both_2 : decode b_Md_both 2 = .ok (.putfield 71, 3) := by decide +kernel
theorem d_Md_both_5 : decode b_Md_both 5 = .ok (.aload_n 0, 1) := by decide +kernel
theorem d_Md_both_6 : decode b_Md_both 6 = .ok (.iload_n 1, 1) := by decide +kernel
theorem d_Md_both_7 : decode b_Md_both 7 = .ok (.invokevirtual 81, 3) := by decide +kernel
theorem d_Md_both_10 : decode b_Md_both 10 = .ok (.ifCond .eq (35), 3) := by decide +kernel
theorem d_Md_both_13 : decode b_Md_both 13 = .ok (.aload_n 0, 1) := by decide +kernel
theorem d_Md_both_14 : decode b_Md_both 14 = .ok (.iload_n 2, 1) := by decide +kernel
theorem d_Md_both_15 : decode b_Md_both 15 = .ok (.invokevirtual 81, 3) := by decide +kernel
theorem d_Md_both_18 : decode b_Md_both 18 = .ok (.ifCond .eq (27), 3) := by decide +kernel
theorem d_Md_both_21 : decode b_Md_both 21 = .ok (.iload_n 3, 1) := by decide +kernel
theorem d_Md_both_22 : decode b_Md_both 22 = .ok (.iconst (0), 1) := by decide +kernel
theorem d_Md_both_23 : decode b_Md_both 23 = .ok (.iconst (1), 1) := by decide +kernel
theorem d_Md_both_24 : decode b_Md_both 24 = .ok (.invokestatic 74, 3) := by decide +kernel
theorem d_Md_both_27 : decode b_Md_both 27 = .ok (.ifCond .eq (18), 3) := by decide +kernel
theorem d_Md_both_30 : decode b_Md_both 30 = .ok (.aload_n 0, 1) := by decide +kernel
theorem d_Md_both_31 : decode b_Md_both 31 = .ok (.getfield 32, 3) := by decide +kernel
theorem d_Md_both_34 : decode b_Md_both 34 = .ok (.iload_n 1, 1) := by decide +kernel
theorem d_Md_both_35 : decode b_Md_both 35 = .ok (.iaload, 1) := by decide +kernel
theorem d_Md_both_36 : decode b_Md_both 36 = .ok (.aload_n 0, 1) := by decide +kernel
theorem d_Md_both_37 : decode b_Md_both 37 = .ok (.getfield 32, 3) := by decide +kernel
theorem d_Md_both_40 : decode b_Md_both 40 = .ok (.iload_n 2, 1) := by decide +kernel
theorem d_Md_both_41 : decode b_Md_both 41 = .ok (.iaload, 1) := by decide +kernel
theorem d_Md_both_42 : decode b_Md_both 42 = .ok (.if_icmp .ne (7), 3) := by decide +kernel
theorem d_Md_both_45 : decode b_Md_both 45 = .ok (.ldc2_w 91, 3) := by decide +kernel
theorem d_Md_both_48 : decode b_Md_both 48 = .ok (.lreturn, 1) := by decide +kernel
theorem d_Md_both_49 : decode b_Md_both 49 = .ok (.aload_n 0, 1) := by decide +kernel
theorem d_Md_both_50 : decode b_Md_both 50 = .ok (.invokevirtual 101, 3) := by decide +kernel
theorem d_Md_both_53 : decode b_Md_both 53 = .ok (.ifCond .eq (5), 3) := by decide +kernel
theorem d_Md_both_56 : decode b_Md_both 56 = .ok (.lconst 0, 1) := by decide +kernel
theorem d_Md_both_57 : decode b_Md_both 57 = .ok (.lreturn, 1) := by decide +kernel
theorem d_Md_both_58 : decode b_Md_both 58 = .ok (.aload_n 0, 1) := by decide +kernel
theorem d_Md_both_59 : decode b_Md_both 59 = .ok (.invokevirtual 105, 3) := by decide +kernel
theorem d_Md_both_62 : decode b_Md_both 62 = .ok (.aload_n 0, 1) := by decide +kernel
theorem d_Md_both_63 : decode b_Md_both 63 = .ok (.aload_n 0, 1) := by decide +kernel
theorem d_Md_both_64 : decode b_Md_both 64 = .ok (.getfield 32, 3) := by decide +kernel
theorem d_Md_both_67 : decode b_Md_both 67 = .ok (.iload_n 1, 1) := by decide +kernel
theorem d_Md_both_68 : decode b_Md_both 68 = .ok (.iaload, 1) := by decide +kernel
theorem d_Md_both_69 : decode b_Md_both 69 = .ok (.invokevirtual 115, 3) := by decide +kernel
theorem d_Md_both_72 : decode b_Md_both 72 = .ok (.istore 4, 2) := by decide +kernel
theorem d_Md_both_74 : decode b_Md_both 74 = .ok (.aload_n 0, 1) := by decide +kernel
theorem d_Md_both_75 : decode b_Md_both 75 = .ok (.aload_n 0, 1) := by decide +kernel
theorem d_Md_both_76 : decode b_Md_both 76 = .ok (.getfield 32, 3) := by decide +kernel
theorem d_Md_both_79 : decode b_Md_both 79 = .ok (.iload_n 2, 1) := by decide +kernel
theorem d_Md_both_80 : decode b_Md_both 80 = .ok (.iaload, 1) := by decide +kernel
theorem d_Md_both_81 : decode b_Md_both 81 = .ok (.invokevirtual 115, 3) := by decide +kernel
theorem d_Md_both_84 : decode b_Md_both 84 = .ok (.istore 5, 2) := by decide +kernel
theorem d_Md_both_86 : decode b_Md_both 86 = .ok (.aload_n 0, 1) := by decide +kernel
theorem d_Md_both_87 : decode b_Md_both 87 = .ok (.iload 4, 2) := by decide +kernel
theorem d_Md_both_89 : decode b_Md_both 89 = .ok (.iload 5, 2) := by decide +kernel
theorem d_Md_both_91 : decode b_Md_both 91 = .ok (.invokevirtual 119, 3) := by decide +kernel
theorem d_Md_both_94 : decode b_Md_both 94 = .ok (.lconst 0, 1) := by decide +kernel
theorem d_Md_both_95 : decode b_Md_both 95 = .ok (.lstore 6, 2) := by decide +kernel
theorem d_Md_both_97 : decode b_Md_both 97 = .ok (.iconst (0), 1) := by decide +kernel
theorem d_Md_both_98 : decode b_Md_both 98 = .ok (.istore 8, 2) := by decide +kernel
theorem d_Md_both_100 : decode b_Md_both 100 = .ok (.iload 8, 2) := by decide +kernel
theorem d_Md_both_102 : decode b_Md_both 102 = .ok (.aload_n 0, 1) := by decide +kernel
theorem d_Md_both_103 : decode b_Md_both 103 = .ok (.invokevirtual 123, 3) := by decide +kernel
theorem d_Md_both_106 : decode b_Md_both 106 = .ok (.if_icmp .ge (74), 3) := by decide +kernel
theorem d_Md_both_109 : decode b_Md_both 109 = .ok (.aload_n 0, 1) := by decide +kernel
theorem d_Md_both_110 : decode b_Md_both 110 = .ok (.iload 8, 2) := by decide +kernel
theorem d_Md_both_112 : decode b_Md_both 112 = .ok (.invokevirtual 126, 3) := by decide +kernel
theorem d_Md_both_115 : decode b_Md_both 115 = .ok (.aload_n 0, 1) := by decide +kernel
theorem d_Md_both_116 : decode b_Md_both 116 = .ok (.iload 4, 2) := by decide +kernel
theorem d_Md_both_118 : decode b_Md_both 118 = .ok (.iload 5, 2) := by decide +kernel
theorem d_Md_both_120 : decode b_Md_both 120 = .ok (.ior, 1) := by decide +kernel
theorem d_Md_both_121 : decode b_Md_both 121 = .ok (.invokevirtual 129, 3) := by decide +kernel
theorem d_Md_both_124 : decode b_Md_both 124 = .ok (.istore 9, 2) := by decide +kernel
theorem d_Md_both_126 : decode b_Md_both 126 = .ok (.lload 6, 2) := by decide +kernel
theorem d_Md_both_128 : decode b_Md_both 128 = .ok (.aload_n 0, 1) := by decide +kernel
theorem d_Md_both_129 : decode b_Md_both 129 = .ok (.getfield 44, 3) := by decide +kernel
theorem d_Md_both_132 : decode b_Md_both 132 = .ok (.iload 9, 2) := by decide +kernel
theorem d_Md_both_134 : decode b_Md_both 134 = .ok (.iload 4, 2) := by decide +kernel
theorem d_Md_both_136 : decode b_Md_both 136 = .ok (.ior, 1) := by decide +kernel
theorem d_Md_both_137 : decode b_Md_both 137 = .ok (.iload 5, 2) := by decide +kernel
theorem d_Md_both_139 : decode b_Md_both 139 = .ok (.ior, 1) := by decide +kernel
theorem d_Md_both_140 : decode b_Md_both 140 = .ok (.laload, 1) := by decide +kernel
theorem d_Md_both_141 : decode b_Md_both 141 = .ok (.aload_n 0, 1) := by decide +kernel
theorem d_Md_both_142 : decode b_Md_both 142 = .ok (.getfield 44, 3) := by decide +kernel
theorem d_Md_both_145 : decode b_Md_both 145 = .ok (.iload 9, 2) := by decide +kernel
theorem d_Md_both_147 : decode b_Md_both 147 = .ok (.iload 4, 2) := by decide +kernel
theorem d_Md_both_149 : decode b_Md_both 149 = .ok (.ior, 1) := by decide +kernel
theorem d_Md_both_150 : decode b_Md_both 150 = .ok (.laload, 1) := by decide +kernel
theorem d_Md_both_151 : decode b_Md_both 151 = .ok (.lsub, 1) := by decide +kernel
theorem d_Md_both_152 : decode b_Md_both 152 = .ok (.aload_n 0, 1) := by decide +kernel
theorem d_Md_both_153 : decode b_Md_both 153 = .ok (.getfield 44, 3) := by decide +kernel
theorem d_Md_both_156 : decode b_Md_both 156 = .ok (.iload 9, 2) := by decide +kernel
theorem d_Md_both_158 : decode b_Md_both 158 = .ok (.iload 5, 2) := by decide +kernel
theorem d_Md_both_160 : decode b_Md_both 160 = .ok (.ior, 1) := by decide +kernel
theorem d_Md_both_161 : decode b_Md_both 161 = .ok (.laload, 1) := by decide +kernel
theorem d_Md_both_162 : decode b_Md_both 162 = .ok (.lsub, 1) := by decide +kernel
theorem d_Md_both_163 : decode b_Md_both 163 = .ok (.aload_n 0, 1) := by decide +kernel
theorem d_Md_both_164 : decode b_Md_both 164 = .ok (.getfield 44, 3) := by decide +kernel
theorem d_Md_both_167 : decode b_Md_both 167 = .ok (.iload 9, 2) := by decide +kernel
theorem d_Md_both_169 : decode b_Md_both 169 = .ok (.laload, 1) := by decide +kernel
theorem d_Md_both_170 : decode b_Md_both 170 = .ok (.ladd, 1) := by decide +kernel
theorem d_Md_both_171 : decode b_Md_both 171 = .ok (.ladd, 1) := by decide +kernel
theorem d_Md_both_172 : decode b_Md_both 172 = .ok (.lstore 6, 2) := by decide +kernel
theorem d_Md_both_174 : decode b_Md_both 174 = .ok (.iinc 8 (1), 3) := by decide +kernel
theorem d_Md_both_177 : decode b_Md_both 177 = .ok (.goto (-77), 3) := by decide +kernel
theorem d_Md_both_180 : decode b_Md_both 180 = .ok (.lload 6, 2) := by decide +kernel
theorem d_Md_both_182 : decode b_Md_both 182 = .ok (.aload_n 0, 1) := by decide +kernel
theorem d_Md_both_183 : decode b_Md_both 183 = .ok (.getfield 88, 3) := by decide +kernel
theorem d_Md_both_186 : decode b_Md_both 186 = .ok (.i2l, 1) := by decide +kernel
theorem d_Md_both_187 : decode b_Md_both 187 = .ok (.aload_n 0, 1) := by decide +kernel
theorem d_Md_both_188 : decode b_Md_both 188 = .ok (.invokevirtual 123, 3) := by decide +kernel
theorem d_Md_both_191 : decode b_Md_both 191 = .ok (.i2l, 1) := by decide +kernel
theorem d_Md_both_192 : decode b_Md_both 192 = .ok (.lmul, 1) := by decide +kernel
theorem d_Md_both_193 : decode b_Md_both 193 = .ok (.iload_n 3, 1) := by decide +kernel
theorem d_Md_both_194 : decode b_Md_both 194 = .ok (.invokestatic 108, 3) := by decide +kernel
theorem d_Md_both_197 : decode b_Md_both 197 = .ok (.lreturn, 1) := by decide +kernel
theorem d_Md_drawn_0 : decode b_Md_drawn 0 = .ok (.aload_n 0, 1) := by decide +kernel
theorem d_Md_drawn_1 : decode b_Md_drawn 1 = .ok (.iconst (0), 1) := by decide +kernel
theorem d_Md_drawn_2 : decode b_Md_drawn 2 = .ok (.putfield 71, 3) := by decide +kernel
theorem d_Md_drawn_5 : decode b_Md_drawn 5 = .ok (.aload_n 0, 1) := by decide +kernel
theorem d_Md_drawn_6 : decode b_Md_drawn 6 = .ok (.iload_n 1, 1) := by decide +kernel
theorem d_Md_drawn_7 : decode b_Md_drawn 7 = .ok (.invokevirtual 81, 3) := by decide +kernel
theorem d_Md_drawn_10 : decode b_Md_drawn 10 = .ok (.ifCond .eq (23), 3) := by decide +kernel
theorem d_Md_drawn_13 : decode b_Md_drawn 13 = .ok (.iload_n 3, 1) := by decide +kernel
theorem d_Md_drawn_14 : decode b_Md_drawn 14 = .ok (.iconst (1), 1) := by decide +kernel
theorem d_Md_drawn_15 : decode b_Md_drawn 15 = .ok (.bipush (20), 2) := by decide +kernel
theorem d_Md_drawn_17 : decode b_Md_drawn 17 = .ok (.invokestatic 74, 3) := by decide +kernel
theorem d_Md_drawn_20 : decode b_Md_drawn 20 = .ok (.ifCond .eq (13), 3) := by decide +kernel
theorem d_Md_drawn_23 : decode b_Md_drawn 23 = .ok (.iload 4, 2) := by decide +kernel
theorem d_Md_drawn_25 : decode b_Md_drawn 25 = .ok (.iconst (0), 1) := by decide +kernel
theorem d_Md_drawn_26 : decode b_Md_drawn 26 = .ok (.iconst (1), 1) := by decide +kernel
theorem d_Md_drawn_27 : decode b_Md_drawn 27 = .ok (.invokestatic 74, 3) := by decide +kernel
theorem d_Md_drawn_30 : decode b_Md_drawn 30 = .ok (.ifCond .ne (7), 3) := by decide +kernel
theorem d_Md_drawn_33 : decode b_Md_drawn 33 = .ok (.ldc2_w 91, 3) := by decide +kernel
theorem d_Md_drawn_36 : decode b_Md_drawn 36 = .ok (.lreturn, 1) := by decide +kernel
theorem d_Md_drawn_37 : decode b_Md_drawn 37 = .ok (.aload_n 0, 1) := by decide +kernel
theorem d_Md_drawn_38 : decode b_Md_drawn 38 = .ok (.invokevirtual 101, 3) := by decide +kernel
theorem d_Md_drawn_41 : decode b_Md_drawn 41 = .ok (.ifCond .eq (5), 3) := by decide +kernel
theorem d_Md_drawn_44 : decode b_Md_drawn 44 = .ok (.lconst 0, 1) := by decide +kernel
theorem d_Md_drawn_45 : decode b_Md_drawn 45 = .ok (.lreturn, 1) := by decide +kernel
theorem d_Md_drawn_46 : decode b_Md_drawn 46 = .ok (.aload_n 0, 1) := by decide +kernel
theorem d_Md_drawn_47 : decode b_Md_drawn 47 = .ok (.invokevirtual 105, 3) := by decide +kernel
theorem d_Md_drawn_50 : decode b_Md_drawn 50 = .ok (.aload_n 0, 1) := by decide +kernel
theorem d_Md_drawn_51 : decode b_Md_drawn 51 = .ok (.aload_n 0, 1) := by decide +kernel
theorem d_Md_drawn_52 : decode b_Md_drawn 52 = .ok (.getfield 32, 3) := by decide +kernel
theorem d_Md_drawn_55 : decode b_Md_drawn 55 = .ok (.iload_n 1, 1) := by decide +kernel
theorem d_Md_drawn_56 : decode b_Md_drawn 56 = .ok (.iaload, 1) := by decide +kernel
theorem d_Md_drawn_57 : decode b_Md_drawn 57 = .ok (.invokevirtual 115, 3) := by decide +kernel
theorem d_Md_drawn_60 : decode b_Md_drawn 60 = .ok (.istore 5, 2) := by decide +kernel
theorem d_Md_drawn_62 : decode b_Md_drawn 62 = .ok (.aload_n 0, 1) := by decide +kernel
theorem d_Md_drawn_63 : decode b_Md_drawn 63 = .ok (.iconst (0), 1) := by decide +kernel
theorem d_Md_drawn_64 : decode b_Md_drawn 64 = .ok (.iconst (0), 1) := by decide +kernel
theorem d_Md_drawn_65 : decode b_Md_drawn 65 = .ok (.invokevirtual 119, 3) := by decide +kernel
theorem d_Md_drawn_68 : decode b_Md_drawn 68 = .ok (.iload_n 2, 1) := by decide +kernel
theorem d_Md_drawn_69 : decode b_Md_drawn 69 = .ok (.istore 6, 2) := by decide +kernel
theorem d_Md_drawn_71 : decode b_Md_drawn 71 = .ok (.lconst 0, 1) := by decide +kernel
theorem d_Md_drawn_72 : decode b_Md_drawn 72 = .ok (.lstore 7, 2) := by decide +kernel
theorem d_Md_drawn_74 : decode b_Md_drawn 74 = .ok (.iconst (0), 1) := by decide +kernel
theorem d_Md_drawn_75 : decode b_Md_drawn 75 = .ok (.istore 9, 2) := by decide +kernel
theorem d_Md_drawn_77 : decode b_Md_drawn 77 = .ok (.iload 9, 2) := by decide +kernel
theorem d_Md_drawn_79 : decode b_Md_drawn 79 = .ok (.iload_n 3, 1) := by decide +kernel
theorem d_Md_drawn_80 : decode b_Md_drawn 80 = .ok (.if_icmp .ge (141), 3) := by decide +kernel
theorem d_Md_drawn_83 : decode b_Md_drawn 83 = .ok (.iconst (0), 1) := by decide +kernel
theorem d_Md_drawn_84 : decode b_Md_drawn 84 = .ok (.istore 10, 2) := by decide +kernel
theorem d_Md_drawn_86 : decode b_Md_drawn 86 = .ok (.iload 10, 2) := by decide +kernel
theorem d_Md_drawn_88 : decode b_Md_drawn 88 = .ok (.aload_n 0, 1) := by decide +kernel
theorem d_Md_drawn_89 : decode b_Md_drawn 89 = .ok (.getfield 112, 3) := by decide +kernel
theorem d_Md_drawn_92 : decode b_Md_drawn 92 = .ok (.if_icmp .ge (18), 3) := by decide +kernel
theorem d_Md_drawn_95 : decode b_Md_drawn 95 = .ok (.aload_n 0, 1) := by decide +kernel
theorem d_Md_drawn_96 : decode b_Md_drawn 96 = .ok (.getfield 51, 3) := by decide +kernel
theorem d_Md_drawn_99 : decode b_Md_drawn 99 = .ok (.iload 10, 2) := by decide +kernel
theorem d_Md_drawn_101 : decode b_Md_drawn 101 = .ok (.iload 10, 2) := by decide +kernel
theorem d_Md_drawn_103 : decode b_Md_drawn 103 = .ok (.iastore, 1) := by decide +kernel
theorem d_Md_drawn_104 : decode b_Md_drawn 104 = .ok (.iinc 10 (1), 3) := by decide +kernel
theorem d_Md_drawn_107 : decode b_Md_drawn 107 = .ok (.goto (-21), 3) := by decide +kernel
theorem d_Md_drawn_110 : decode b_Md_drawn 110 = .ok (.aload_n 0, 1) := by decide +kernel
theorem d_Md_drawn_111 : decode b_Md_drawn 111 = .ok (.getfield 112, 3) := by decide +kernel
theorem d_Md_drawn_114 : decode b_Md_drawn 114 = .ok (.iconst (1), 1) := by decide +kernel
theorem d_Md_drawn_115 : decode b_Md_drawn 115 = .ok (.isub, 1) := by decide +kernel
theorem d_Md_drawn_116 : decode b_Md_drawn 116 = .ok (.istore 10, 2) := by decide +kernel
theorem d_Md_drawn_118 : decode b_Md_drawn 118 = .ok (.iload 10, 2) := by decide +kernel
theorem d_Md_drawn_120 : decode b_Md_drawn 120 = .ok (.ifCond .le (64), 3) := by decide +kernel
theorem d_Md_drawn_123 : decode b_Md_drawn 123 = .ok (.iload 6, 2) := by decide +kernel
theorem d_Md_drawn_125 : decode b_Md_drawn 125 = .ok (.ldc 139, 2) := by decide +kernel
theorem d_Md_drawn_127 : decode b_Md_drawn 127 = .ok (.imul, 1) := by decide +kernel
theorem d_Md_drawn_128 : decode b_Md_drawn 128 = .ok (.sipush (12345), 3) := by decide +kernel
theorem d_Md_drawn_131 : decode b_Md_drawn 131 = .ok (.iadd, 1) := by decide +kernel
theorem d_Md_drawn_132 : decode b_Md_drawn 132 = .ok (.istore 6, 2) := by decide +kernel
theorem d_Md_drawn_134 : decode b_Md_drawn 134 = .ok (.iload 6, 2) := by decide +kernel
theorem d_Md_drawn_136 : decode b_Md_drawn 136 = .ok (.bipush (16), 2) := by decide +kernel
theorem d_Md_drawn_138 : decode b_Md_drawn 138 = .ok (.iushr, 1) := by decide +kernel
theorem d_Md_drawn_139 : decode b_Md_drawn 139 = .ok (.iload 10, 2) := by decide +kernel
theorem d_Md_drawn_141 : decode b_Md_drawn 141 = .ok (.iconst (1), 1) := by decide +kernel
theorem d_Md_drawn_142 : decode b_Md_drawn 142 = .ok (.iadd, 1) := by decide +kernel
theorem d_Md_drawn_143 : decode b_Md_drawn 143 = .ok (.irem, 1) := by decide +kernel
theorem d_Md_drawn_144 : decode b_Md_drawn 144 = .ok (.istore 11, 2) := by decide +kernel
theorem d_Md_drawn_146 : decode b_Md_drawn 146 = .ok (.aload_n 0, 1) := by decide +kernel
theorem d_Md_drawn_147 : decode b_Md_drawn 147 = .ok (.getfield 51, 3) := by decide +kernel
theorem d_Md_drawn_150 : decode b_Md_drawn 150 = .ok (.iload 10, 2) := by decide +kernel
theorem d_Md_drawn_152 : decode b_Md_drawn 152 = .ok (.iaload, 1) := by decide +kernel
theorem d_Md_drawn_153 : decode b_Md_drawn 153 = .ok (.istore 12, 2) := by decide +kernel
theorem d_Md_drawn_155 : decode b_Md_drawn 155 = .ok (.aload_n 0, 1) := by decide +kernel
theorem d_Md_drawn_156 : decode b_Md_drawn 156 = .ok (.getfield 51, 3) := by decide +kernel
theorem d_Md_drawn_159 : decode b_Md_drawn 159 = .ok (.iload 10, 2) := by decide +kernel
theorem d_Md_drawn_161 : decode b_Md_drawn 161 = .ok (.aload_n 0, 1) := by decide +kernel
theorem d_Md_drawn_162 : decode b_Md_drawn 162 = .ok (.getfield 51, 3) := by decide +kernel
theorem d_Md_drawn_165 : decode b_Md_drawn 165 = .ok (.iload 11, 2) := by decide +kernel
theorem d_Md_drawn_167 : decode b_Md_drawn 167 = .ok (.iaload, 1) := by decide +kernel
end
section
theorem d_Md_drawn_168 : decode b_Md_drawn 168 = .ok (.iastore, 1) := by decide +kernel
theorem d_Md_drawn_169 : decode b_Md_drawn 169 = .ok (.aload_n 0, 1) := by decide +kernel
theorem d_Md_drawn_170 : decode b_Md_drawn 170 = .ok (.getfield 51, 3) := by decide +kernel
theorem d_Md_drawn_173 : decode b_Md_drawn 173 = .ok (.iload 11, 2) := by decide +kernel
theorem d_Md_drawn_175 : decode b_Md_drawn 175 = .ok (.iload 12, 2) := by decide +kernel
theorem d_Md_drawn_177 : decode b_Md_drawn 177 = .ok (.iastore, 1) := by decide +kernel
theorem d_Md_drawn_178 : decode b_Md_drawn 178 = .ok (.iinc 10 (-1), 3) := by decide +kernel
theorem d_Md_drawn_181 : decode b_Md_drawn 181 = .ok (.goto (-63), 3) := by decide +kernel
theorem d_Md_drawn_184 : decode b_Md_drawn 184 = .ok (.aload_n 0, 1) := by decide +kernel
theorem d_Md_drawn_185 : decode b_Md_drawn 185 = .ok (.iload 5, 2) := by decide +kernel
theorem d_Md_drawn_187 : decode b_Md_drawn 187 = .ok (.invokevirtual 129, 3) := by decide +kernel
theorem d_Md_drawn_190 : decode b_Md_drawn 190 = .ok (.istore 10, 2) := by decide +kernel
theorem d_Md_drawn_192 : decode b_Md_drawn 192 = .ok (.lload 7, 2) := by decide +kernel
theorem d_Md_drawn_194 : decode b_Md_drawn 194 = .ok (.aload_n 0, 1) := by decide +kernel
theorem d_Md_drawn_195 : decode b_Md_drawn 195 = .ok (.getfield 44, 3) := by decide +kernel
theorem d_Md_drawn_198 : decode b_Md_drawn 198 = .ok (.iload 10, 2) := by decide +kernel
theorem d_Md_drawn_200 : decode b_Md_drawn 200 = .ok (.iload 5, 2) := by decide +kernel
theorem d_Md_drawn_202 : decode b_Md_drawn 202 = .ok (.ior, 1) := by decide +kernel
theorem d_Md_drawn_203 : decode b_Md_drawn 203 = .ok (.laload, 1) := by decide +kernel
theorem d_Md_drawn_204 : decode b_Md_drawn 204 = .ok (.aload_n 0, 1) := by decide +kernel
theorem d_Md_drawn_205 : decode b_Md_drawn 205 = .ok (.getfield 44, 3) := by decide +kernel
theorem d_Md_drawn_208 : decode b_Md_drawn 208 = .ok (.iload 10, 2) := by decide +kernel
theorem d_Md_drawn_210 : decode b_Md_drawn 210 = .ok (.laload, 1) := by decide +kernel
theorem d_Md_drawn_211 : decode b_Md_drawn 211 = .ok (.lsub, 1) := by decide +kernel
theorem d_Md_drawn_212 : decode b_Md_drawn 212 = .ok (.ladd, 1) := by decide +kernel
theorem d_Md_drawn_213 : decode b_Md_drawn 213 = .ok (.lstore 7, 2) := by decide +kernel
theorem d_Md_drawn_215 : decode b_Md_drawn 215 = .ok (.iinc 9 (1), 3) := by decide +kernel
theorem d_Md_drawn_218 : decode b_Md_drawn 218 = .ok (.goto (-141), 3) := by decide +kernel
theorem d_Md_drawn_221 : decode b_Md_drawn 221 = .ok (.lload 7, 2) := by decide +kernel
theorem d_Md_drawn_223 : decode b_Md_drawn 223 = .ok (.aload_n 0, 1) := by decide +kernel
theorem d_Md_drawn_224 : decode b_Md_drawn 224 = .ok (.getfield 88, 3) := by decide +kernel
theorem d_Md_drawn_227 : decode b_Md_drawn 227 = .ok (.i2l, 1) := by decide +kernel
theorem d_Md_drawn_228 : decode b_Md_drawn 228 = .ok (.iload_n 3, 1) := by decide +kernel
theorem d_Md_drawn_229 : decode b_Md_drawn 229 = .ok (.i2l, 1) := by decide +kernel
theorem d_Md_drawn_230 : decode b_Md_drawn 230 = .ok (.lmul, 1) := by decide +kernel
theorem d_Md_drawn_231 : decode b_Md_drawn 231 = .ok (.iload 4, 2) := by decide +kernel
theorem d_Md_drawn_233 : decode b_Md_drawn 233 = .ok (.invokestatic 108, 3) := by decide +kernel
theorem d_Md_drawn_236 : decode b_Md_drawn 236 = .ok (.lreturn, 1) := by decide +kernel
theorem d_Md_partial_0 : decode b_Md_partial 0 = .ok (.aload_n 0, 1) := by decide +kernel
theorem d_Md_partial_1 : decode b_Md_partial 1 = .ok (.iconst (0), 1) := by decide +kernel
theorem d_Md_partial_2 : decode b_Md_partial 2 = .ok (.putfield 71, 3) := by decide +kernel
theorem d_Md_partial_5 : decode b_Md_partial 5 = .ok (.aload_n 0, 1) := by decide +kernel
theorem d_Md_partial_6 : decode b_Md_partial 6 = .ok (.iload_n 1, 1) := by decide +kernel
theorem d_Md_partial_7 : decode b_Md_partial 7 = .ok (.invokevirtual 81, 3) := by decide +kernel
theorem d_Md_partial_10 : decode b_Md_partial 10 = .ok (.ifCond .eq (23), 3) := by decide +kernel
theorem d_Md_partial_13 : decode b_Md_partial 13 = .ok (.iload_n 2, 1) := by decide +kernel
theorem d_Md_partial_14 : decode b_Md_partial 14 = .ok (.bipush (-100), 2) := by decide +kernel
theorem d_Md_partial_16 : decode b_Md_partial 16 = .ok (.bipush (100), 2) := by decide +kernel
theorem d_Md_partial_18 : decode b_Md_partial 18 = .ok (.invokestatic 74, 3) := by decide +kernel
theorem d_Md_partial_21 : decode b_Md_partial 21 = .ok (.ifCond .eq (12), 3) := by decide +kernel
theorem d_Md_partial_24 : decode b_Md_partial 24 = .ok (.iload_n 3, 1) := by decide +kernel
theorem d_Md_partial_25 : decode b_Md_partial 25 = .ok (.iconst (0), 1) := by decide +kernel
theorem d_Md_partial_26 : decode b_Md_partial 26 = .ok (.iconst (1), 1) := by decide +kernel
theorem d_Md_partial_27 : decode b_Md_partial 27 = .ok (.invokestatic 74, 3) := by decide +kernel
theorem d_Md_partial_30 : decode b_Md_partial 30 = .ok (.ifCond .ne (7), 3) := by decide +kernel
theorem d_Md_partial_33 : decode b_Md_partial 33 = .ok (.ldc2_w 91, 3) := by decide +kernel
theorem d_Md_partial_36 : decode b_Md_partial 36 = .ok (.lreturn, 1) := by decide +kernel
theorem d_Md_partial_37 : decode b_Md_partial 37 = .ok (.aload_n 0, 1) := by decide +kernel
theorem d_Md_partial_38 : decode b_Md_partial 38 = .ok (.invokevirtual 101, 3) := by decide +kernel
theorem d_Md_partial_41 : decode b_Md_partial 41 = .ok (.ifCond .eq (5), 3) := by decide +kernel
theorem d_Md_partial_44 : decode b_Md_partial 44 = .ok (.lconst 0, 1) := by decide +kernel
theorem d_Md_partial_45 : decode b_Md_partial 45 = .ok (.lreturn, 1) := by decide +kernel
theorem d_Md_partial_46 : decode b_Md_partial 46 = .ok (.lconst 0, 1) := by decide +kernel
theorem d_Md_partial_47 : decode b_Md_partial 47 = .ok (.lstore 4, 2) := by decide +kernel
theorem d_Md_partial_49 : decode b_Md_partial 49 = .ok (.iconst (1), 1) := by decide +kernel
theorem d_Md_partial_50 : decode b_Md_partial 50 = .ok (.istore 6, 2) := by decide +kernel
theorem d_Md_partial_52 : decode b_Md_partial 52 = .ok (.iload 6, 2) := by decide +kernel
theorem d_Md_partial_54 : decode b_Md_partial 54 = .ok (.aload_n 0, 1) := by decide +kernel
theorem d_Md_partial_55 : decode b_Md_partial 55 = .ok (.getfield 88, 3) := by decide +kernel
theorem d_Md_partial_58 : decode b_Md_partial 58 = .ok (.if_icmp .gt (31), 3) := by decide +kernel
theorem d_Md_partial_61 : decode b_Md_partial 61 = .ok (.aload_n 0, 1) := by decide +kernel
theorem d_Md_partial_62 : decode b_Md_partial 62 = .ok (.iload 6, 2) := by decide +kernel
theorem d_Md_partial_64 : decode b_Md_partial 64 = .ok (.invokevirtual 93, 3) := by decide +kernel
theorem d_Md_partial_67 : decode b_Md_partial 67 = .ok (.aload_n 0, 1) := by decide +kernel
theorem d_Md_partial_68 : decode b_Md_partial 68 = .ok (.getfield 41, 3) := by decide +kernel
theorem d_Md_partial_71 : decode b_Md_partial 71 = .ok (.iload_n 1, 1) := by decide +kernel
theorem d_Md_partial_72 : decode b_Md_partial 72 = .ok (.iload_n 2, 1) := by decide +kernel
theorem d_Md_partial_73 : decode b_Md_partial 73 = .ok (.iastore, 1) := by decide +kernel
theorem d_Md_partial_74 : decode b_Md_partial 74 = .ok (.lload 4, 2) := by decide +kernel
theorem d_Md_partial_76 : decode b_Md_partial 76 = .ok (.aload_n 0, 1) := by decide +kernel
theorem d_Md_partial_77 : decode b_Md_partial 77 = .ok (.invokevirtual 97, 3) := by decide +kernel
theorem d_Md_partial_80 : decode b_Md_partial 80 = .ok (.ladd, 1) := by decide +kernel
theorem d_Md_partial_81 : decode b_Md_partial 81 = .ok (.lstore 4, 2) := by decide +kernel
theorem d_Md_partial_83 : decode b_Md_partial 83 = .ok (.iinc 6 (1), 3) := by decide +kernel
theorem d_Md_partial_86 : decode b_Md_partial 86 = .ok (.goto (-34), 3) := by decide +kernel
theorem d_Md_partial_89 : decode b_Md_partial 89 = .ok (.lload 4, 2) := by decide +kernel
theorem d_Md_partial_91 : decode b_Md_partial 91 = .ok (.aload_n 0, 1) := by decide +kernel
theorem d_Md_partial_92 : decode b_Md_partial 92 = .ok (.getfield 88, 3) := by decide +kernel
theorem d_Md_partial_95 : decode b_Md_partial 95 = .ok (.i2l, 1) := by decide +kernel
theorem d_Md_partial_96 : decode b_Md_partial 96 = .ok (.iload_n 3, 1) := by decide +kernel
theorem d_Md_partial_97 : decode b_Md_partial 97 = .ok (.invokestatic 108, 3) := by decide +kernel
theorem d_Md_partial_100 : decode b_Md_partial 100 = .ok (.lreturn, 1) := by decide +kernel
theorem d_Md_worth_0 : decode b_Md_worth 0 = .ok (.aload_n 0, 1) := by decide +kernel
theorem d_Md_worth_1 : decode b_Md_worth 1 = .ok (.iconst (0), 1) := by decide +kernel
theorem d_Md_worth_2 : decode b_Md_worth 2 = .ok (.putfield 71, 3) := by decide +kernel
theorem d_Md_worth_5 : decode b_Md_worth 5 = .ok (.aload_n 0, 1) := by decide +kernel
theorem d_Md_worth_6 : decode b_Md_worth 6 = .ok (.iload_n 1, 1) := by decide +kernel
theorem d_Md_worth_7 : decode b_Md_worth 7 = .ok (.invokevirtual 81, 3) := by decide +kernel
theorem d_Md_worth_10 : decode b_Md_worth 10 = .ok (.ifCond .eq (12), 3) := by decide +kernel
theorem d_Md_worth_13 : decode b_Md_worth 13 = .ok (.iload_n 2, 1) := by decide +kernel
theorem d_Md_worth_14 : decode b_Md_worth 14 = .ok (.iconst (0), 1) := by decide +kernel
theorem d_Md_worth_15 : decode b_Md_worth 15 = .ok (.iconst (1), 1) := by decide +kernel
theorem d_Md_worth_16 : decode b_Md_worth 16 = .ok (.invokestatic 74, 3) := by decide +kernel
theorem d_Md_worth_19 : decode b_Md_worth 19 = .ok (.ifCond .ne (7), 3) := by decide +kernel
theorem d_Md_worth_22 : decode b_Md_worth 22 = .ok (.ldc2_w 91, 3) := by decide +kernel
theorem d_Md_worth_25 : decode b_Md_worth 25 = .ok (.lreturn, 1) := by decide +kernel
theorem d_Md_worth_26 : decode b_Md_worth 26 = .ok (.aload_n 0, 1) := by decide +kernel
theorem d_Md_worth_27 : decode b_Md_worth 27 = .ok (.invokevirtual 101, 3) := by decide +kernel
theorem d_Md_worth_30 : decode b_Md_worth 30 = .ok (.ifCond .eq (5), 3) := by decide +kernel
theorem d_Md_worth_33 : decode b_Md_worth 33 = .ok (.lconst 0, 1) := by decide +kernel
theorem d_Md_worth_34 : decode b_Md_worth 34 = .ok (.lreturn, 1) := by decide +kernel
theorem d_Md_worth_35 : decode b_Md_worth 35 = .ok (.lconst 0, 1) := by decide +kernel
theorem d_Md_worth_36 : decode b_Md_worth 36 = .ok (.lstore_n 3, 1) := by decide +kernel
theorem d_Md_worth_37 : decode b_Md_worth 37 = .ok (.iconst (1), 1) := by decide +kernel
theorem d_Md_worth_38 : decode b_Md_worth 38 = .ok (.istore 5, 2) := by decide +kernel
theorem d_Md_worth_40 : decode b_Md_worth 40 = .ok (.iload 5, 2) := by decide +kernel
theorem d_Md_worth_42 : decode b_Md_worth 42 = .ok (.aload_n 0, 1) := by decide +kernel
theorem d_Md_worth_43 : decode b_Md_worth 43 = .ok (.getfield 88, 3) := by decide +kernel
theorem d_Md_worth_46 : decode b_Md_worth 46 = .ok (.if_icmp .gt (74), 3) := by decide +kernel
theorem d_Md_worth_49 : decode b_Md_worth 49 = .ok (.aload_n 0, 1) := by decide +kernel
theorem d_Md_worth_50 : decode b_Md_worth 50 = .ok (.iload 5, 2) := by decide +kernel
theorem d_Md_worth_52 : decode b_Md_worth 52 = .ok (.invokevirtual 93, 3) := by decide +kernel
theorem d_Md_worth_55 : decode b_Md_worth 55 = .ok (.aload_n 0, 1) := by decide +kernel
theorem d_Md_worth_56 : decode b_Md_worth 56 = .ok (.invokevirtual 97, 3) := by decide +kernel
theorem d_Md_worth_59 : decode b_Md_worth 59 = .ok (.lstore 6, 2) := by decide +kernel
theorem d_Md_worth_61 : decode b_Md_worth 61 = .ok (.iconst (1), 1) := by decide +kernel
theorem d_Md_worth_62 : decode b_Md_worth 62 = .ok (.istore 8, 2) := by decide +kernel
theorem d_Md_worth_64 : decode b_Md_worth 64 = .ok (.iload 8, 2) := by decide +kernel
theorem d_Md_worth_66 : decode b_Md_worth 66 = .ok (.aload_n 0, 1) := by decide +kernel
theorem d_Md_worth_67 : decode b_Md_worth 67 = .ok (.getfield 88, 3) := by decide +kernel
theorem d_Md_worth_70 : decode b_Md_worth 70 = .ok (.if_icmp .gt (44), 3) := by decide +kernel
theorem d_Md_worth_73 : decode b_Md_worth 73 = .ok (.aload_n 0, 1) := by decide +kernel
theorem d_Md_worth_74 : decode b_Md_worth 74 = .ok (.getfield 41, 3) := by decide +kernel
theorem d_Md_worth_77 : decode b_Md_worth 77 = .ok (.iload_n 1, 1) := by decide +kernel
theorem d_Md_worth_78 : decode b_Md_worth 78 = .ok (.aload_n 0, 1) := by decide +kernel
theorem d_Md_worth_79 : decode b_Md_worth 79 = .ok (.getfield 38, 3) := by decide +kernel
theorem d_Md_worth_82 : decode b_Md_worth 82 = .ok (.bipush (6), 2) := by decide +kernel
theorem d_Md_worth_84 : decode b_Md_worth 84 = .ok (.iload 8, 2) := by decide +kernel
theorem d_Md_worth_86 : decode b_Md_worth 86 = .ok (.imul, 1) := by decide +kernel
theorem d_Md_worth_87 : decode b_Md_worth 87 = .ok (.iload_n 1, 1) := by decide +kernel
theorem d_Md_worth_88 : decode b_Md_worth 88 = .ok (.iadd, 1) := by decide +kernel
theorem d_Md_worth_89 : decode b_Md_worth 89 = .ok (.iaload, 1) := by decide +kernel
theorem d_Md_worth_90 : decode b_Md_worth 90 = .ok (.iastore, 1) := by decide +kernel
theorem d_Md_worth_91 : decode b_Md_worth 91 = .ok (.aload_n 0, 1) := by decide +kernel
theorem d_Md_worth_92 : decode b_Md_worth 92 = .ok (.invokevirtual 97, 3) := by decide +kernel
theorem d_Md_worth_95 : decode b_Md_worth 95 = .ok (.lload 6, 2) := by decide +kernel
theorem d_Md_worth_97 : decode b_Md_worth 97 = .ok (.lsub, 1) := by decide +kernel
theorem d_Md_worth_98 : decode b_Md_worth 98 = .ok (.lstore 9, 2) := by decide +kernel
theorem d_Md_worth_100 : decode b_Md_worth 100 = .ok (.lload_n 3, 1) := by decide +kernel
theorem d_Md_worth_101 : decode b_Md_worth 101 = .ok (.lload 9, 2) := by decide +kernel
theorem d_Md_worth_103 : decode b_Md_worth 103 = .ok (.lload 9, 2) := by decide +kernel
theorem d_Md_worth_105 : decode b_Md_worth 105 = .ok (.lmul, 1) := by decide +kernel
theorem d_Md_worth_106 : decode b_Md_worth 106 = .ok (.ladd, 1) := by decide +kernel
theorem d_Md_worth_107 : decode b_Md_worth 107 = .ok (.lstore_n 3, 1) := by decide +kernel
theorem d_Md_worth_108 : decode b_Md_worth 108 = .ok (.iinc 8 (1), 3) := by decide +kernel
theorem d_Md_worth_111 : decode b_Md_worth 111 = .ok (.goto (-47), 3) := by decide +kernel
theorem d_Md_worth_114 : decode b_Md_worth 114 = .ok (.iinc 5 (1), 3) := by decide +kernel
theorem d_Md_worth_117 : decode b_Md_worth 117 = .ok (.goto (-77), 3) := by decide +kernel
theorem d_Md_worth_120 : decode b_Md_worth 120 = .ok (.lload_n 3, 1) := by decide +kernel
theorem d_Md_worth_121 : decode b_Md_worth 121 = .ok (.aload_n 0, 1) := by decide +kernel
theorem d_Md_worth_122 : decode b_Md_worth 122 = .ok (.getfield 88, 3) := by decide +kernel
theorem d_Md_worth_125 : decode b_Md_worth 125 = .ok (.i2l, 1) := by decide +kernel
theorem d_Md_worth_126 : decode b_Md_worth 126 = .ok (.aload_n 0, 1) := by decide +kernel
theorem d_Md_worth_127 : decode b_Md_worth 127 = .ok (.getfield 88, 3) := by decide +kernel
theorem d_Md_worth_130 : decode b_Md_worth 130 = .ok (.i2l, 1) := by decide +kernel
theorem d_Md_worth_131 : decode b_Md_worth 131 = .ok (.lmul, 1) := by decide +kernel
theorem d_Md_worth_132 : decode b_Md_worth 132 = .ok (.iload_n 2, 1) := by decide +kernel
theorem d_Md_worth_133 : decode b_Md_worth 133 = .ok (.invokestatic 108, 3) := by decide +kernel
theorem d_Md_worth_136 : decode b_Md_worth 136 = .ok (.lreturn, 1) := by decide +kernel
theorem d_Md_rank_0 : decode b_Md_rank 0 = .ok (.aload_n 0, 1) := by decide +kernel
theorem d_Md_rank_1 : decode b_Md_rank 1 = .ok (.iconst (0), 1) := by decide +kernel
theorem d_Md_rank_2 : decode b_Md_rank 2 = .ok (.putfield 71, 3) := by decide +kernel
theorem d_Md_rank_5 : decode b_Md_rank 5 = .ok (.aload_n 0, 1) := by decide +kernel
theorem d_Md_rank_6 : decode b_Md_rank 6 = .ok (.iconst (0), 1) := by decide +kernel
theorem d_Md_rank_7 : decode b_Md_rank 7 = .ok (.iconst (0), 1) := by decide +kernel
theorem d_Md_rank_8 : decode b_Md_rank 8 = .ok (.invokevirtual 119, 3) := by decide +kernel
theorem d_Md_rank_11 : decode b_Md_rank 11 = .ok (.iload_n 1, 1) := by decide +kernel
theorem d_Md_rank_12 : decode b_Md_rank 12 = .ok (.iconst (0), 1) := by decide +kernel
theorem d_Md_rank_13 : decode b_Md_rank 13 = .ok (.aload_n 0, 1) := by decide +kernel
theorem d_Md_rank_14 : decode b_Md_rank 14 = .ok (.getfield 112, 3) := by decide +kernel
theorem d_Md_rank_17 : decode b_Md_rank 17 = .ok (.iconst (1), 1) := by decide +kernel
theorem d_Md_rank_18 : decode b_Md_rank 18 = .ok (.isub, 1) := by decide +kernel
theorem d_Md_rank_19 : decode b_Md_rank 19 = .ok (.invokestatic 74, 3) := by decide +kernel
theorem d_Md_rank_22 : decode b_Md_rank 22 = .ok (.ifCond .ne (5), 3) := by decide +kernel
theorem d_Md_rank_25 : decode b_Md_rank 25 = .ok (.iconst (-1), 1) := by decide +kernel
theorem d_Md_rank_26 : decode b_Md_rank 26 = .ok (.ireturn, 1) := by decide +kernel
theorem d_Md_rank_27 : decode b_Md_rank 27 = .ok (.aload_n 0, 1) := by decide +kernel
theorem d_Md_rank_28 : decode b_Md_rank 28 = .ok (.getfield 88, 3) := by decide +kernel
theorem d_Md_rank_31 : decode b_Md_rank 31 = .ok (.ifCond .ne (6), 3) := by decide +kernel
theorem d_Md_rank_34 : decode b_Md_rank 34 = .ok (.bipush (-3), 2) := by decide +kernel
theorem d_Md_rank_36 : decode b_Md_rank 36 = .ok (.ireturn, 1) := by decide +kernel
theorem d_Md_rank_37 : decode b_Md_rank 37 = .ok (.aload_n 0, 1) := by decide +kernel
theorem d_Md_rank_38 : decode b_Md_rank 38 = .ok (.invokevirtual 105, 3) := by decide +kernel
theorem d_Md_rank_41 : decode b_Md_rank 41 = .ok (.aload_n 0, 1) := by decide +kernel
theorem d_Md_rank_42 : decode b_Md_rank 42 = .ok (.invokevirtual 140, 3) := by decide +kernel
theorem d_Md_rank_45 : decode b_Md_rank 45 = .ok (.iconst (-1), 1) := by decide +kernel
theorem d_Md_rank_46 : decode b_Md_rank 46 = .ok (.istore_n 2, 1) := by decide +kernel
theorem d_Md_rank_47 : decode b_Md_rank 47 = .ok (.iconst (0), 1) := by decide +kernel
theorem d_Md_rank_48 : decode b_Md_rank 48 = .ok (.istore_n 3, 1) := by decide +kernel
theorem d_Md_rank_49 : decode b_Md_rank 49 = .ok (.iload_n 3, 1) := by decide +kernel
theorem d_Md_rank_50 : decode b_Md_rank 50 = .ok (.aload_n 0, 1) := by decide +kernel
theorem d_Md_rank_51 : decode b_Md_rank 51 = .ok (.getfield 63, 3) := by decide +kernel
theorem d_Md_rank_54 : decode b_Md_rank 54 = .ok (.if_icmp .ge (135), 3) := by decide +kernel
theorem d_Md_rank_57 : decode b_Md_rank 57 = .ok (.iconst (0), 1) := by decide +kernel
theorem d_Md_rank_58 : decode b_Md_rank 58 = .ok (.istore 4, 2) := by decide +kernel
theorem d_Md_rank_60 : decode b_Md_rank 60 = .ok (.iconst (0), 1) := by decide +kernel
theorem d_Md_rank_61 : decode b_Md_rank 61 = .ok (.istore 5, 2) := by decide +kernel
theorem d_Md_rank_63 : decode b_Md_rank 63 = .ok (.iload 5, 2) := by decide +kernel
theorem d_Md_rank_65 : decode b_Md_rank 65 = .ok (.aload_n 0, 1) := by decide +kernel
theorem d_Md_rank_66 : decode b_Md_rank 66 = .ok (.getfield 63, 3) := by decide +kernel
theorem d_Md_rank_69 : decode b_Md_rank 69 = .ok (.if_icmp .ge (94), 3) := by decide +kernel
theorem d_Md_rank_72 : decode b_Md_rank 72 = .ok (.aload_n 0, 1) := by decide +kernel
theorem d_Md_rank_73 : decode b_Md_rank 73 = .ok (.iload_n 3, 1) := by decide +kernel
theorem d_Md_rank_74 : decode b_Md_rank 74 = .ok (.invokevirtual 115, 3) := by decide +kernel
theorem d_Md_rank_77 : decode b_Md_rank 77 = .ok (.ifCond .eq (86), 3) := by decide +kernel
theorem d_Md_rank_80 : decode b_Md_rank 80 = .ok (.iload 5, 2) := by decide +kernel
theorem d_Md_rank_82 : decode b_Md_rank 82 = .ok (.iload_n 3, 1) := by decide +kernel
theorem d_Md_rank_83 : decode b_Md_rank 83 = .ok (.if_icmp .eq (16), 3) := by decide +kernel
theorem d_Md_rank_86 : decode b_Md_rank 86 = .ok (.aload_n 0, 1) := by decide +kernel
theorem d_Md_rank_87 : decode b_Md_rank 87 = .ok (.iload 5, 2) := by decide +kernel
theorem d_Md_rank_89 : decode b_Md_rank 89 = .ok (.invokevirtual 115, 3) := by decide +kernel
theorem d_Md_rank_92 : decode b_Md_rank 92 = .ok (.ifCond .eq (7), 3) := by decide +kernel
theorem d_Md_rank_95 : decode b_Md_rank 95 = .ok (.iconst (1), 1) := by decide +kernel
theorem d_Md_rank_96 : decode b_Md_rank 96 = .ok (.goto (4), 3) := by decide +kernel
theorem d_Md_rank_99 : decode b_Md_rank 99 = .ok (.iconst (0), 1) := by decide +kernel
theorem d_Md_rank_100 : decode b_Md_rank 100 = .ok (.istore 6, 2) := by decide +kernel
theorem d_Md_rank_102 : decode b_Md_rank 102 = .ok (.iload 4, 2) := by decide +kernel
theorem d_Md_rank_104 : decode b_Md_rank 104 = .ok (.iload 6, 2) := by decide +kernel
theorem d_Md_rank_106 : decode b_Md_rank 106 = .ok (.ifCond .eq (47), 3) := by decide +kernel
theorem d_Md_rank_109 : decode b_Md_rank 109 = .ok (.aload_n 0, 1) := by decide +kernel
theorem d_Md_rank_110 : decode b_Md_rank 110 = .ok (.getfield 54, 3) := by decide +kernel
theorem d_Md_rank_113 : decode b_Md_rank 113 = .ok (.iload 5, 2) := by decide +kernel
theorem d_Md_rank_115 : decode b_Md_rank 115 = .ok (.laload, 1) := by decide +kernel
theorem d_Md_rank_116 : decode b_Md_rank 116 = .ok (.aload_n 0, 1) := by decide +kernel
theorem d_Md_rank_117 : decode b_Md_rank 117 = .ok (.getfield 54, 3) := by decide +kernel
theorem d_Md_rank_120 : decode b_Md_rank 120 = .ok (.iload_n 3, 1) := by decide +kernel
theorem d_Md_rank_121 : decode b_Md_rank 121 = .ok (.laload, 1) := by decide +kernel
theorem d_Md_rank_122 : decode b_Md_rank 122 = .ok (.lcmp, 1) := by decide +kernel
theorem d_Md_rank_123 : decode b_Md_rank 123 = .ok (.ifCond .gt (26), 3) := by decide +kernel
theorem d_Md_rank_126 : decode b_Md_rank 126 = .ok (.aload_n 0, 1) := by decide +kernel
theorem d_Md_rank_127 : decode b_Md_rank 127 = .ok (.getfield 54, 3) := by decide +kernel
theorem d_Md_rank_130 : decode b_Md_rank 130 = .ok (.iload 5, 2) := by decide +kernel
theorem d_Md_rank_132 : decode b_Md_rank 132 = .ok (.laload, 1) := by decide +kernel
theorem d_Md_rank_133 : decode b_Md_rank 133 = .ok (.aload_n 0, 1) := by decide +kernel
theorem d_Md_rank_134 : decode b_Md_rank 134 = .ok (.getfield 54, 3) := by decide +kernel
theorem d_Md_rank_137 : decode b_Md_rank 137 = .ok (.iload_n 3, 1) := by decide +kernel
theorem d_Md_rank_138 : decode b_Md_rank 138 = .ok (.laload, 1) := by decide +kernel
theorem d_Md_rank_139 : decode b_Md_rank 139 = .ok (.lcmp, 1) := by decide +kernel
theorem d_Md_rank_140 : decode b_Md_rank 140 = .ok (.ifCond .ne (13), 3) := by decide +kernel
theorem d_Md_rank_143 : decode b_Md_rank 143 = .ok (.iload 5, 2) := by decide +kernel
theorem d_Md_rank_145 : decode b_Md_rank 145 = .ok (.iload_n 3, 1) := by decide +kernel
theorem d_Md_rank_146 : decode b_Md_rank 146 = .ok (.if_icmp .ge (7), 3) := by decide +kernel
theorem d_Md_rank_149 : decode b_Md_rank 149 = .ok (.iconst (1), 1) := by decide +kernel
theorem d_Md_rank_150 : decode b_Md_rank 150 = .ok (.goto (4), 3) := by decide +kernel
theorem d_Md_rank_153 : decode b_Md_rank 153 = .ok (.iconst (0), 1) := by decide +kernel
theorem d_Md_rank_154 : decode b_Md_rank 154 = .ok (.iadd, 1) := by decide +kernel
theorem d_Md_rank_155 : decode b_Md_rank 155 = .ok (.istore 4, 2) := by decide +kernel
theorem d_Md_rank_157 : decode b_Md_rank 157 = .ok (.iinc 5 (1), 3) := by decide +kernel
theorem d_Md_rank_160 : decode b_Md_rank 160 = .ok (.goto (-97), 3) := by decide +kernel
theorem d_Md_rank_163 : decode b_Md_rank 163 = .ok (.aload_n 0, 1) := by decide +kernel
theorem d_Md_rank_164 : decode b_Md_rank 164 = .ok (.iload_n 3, 1) := by decide +kernel
theorem d_Md_rank_165 : decode b_Md_rank 165 = .ok (.invokevirtual 115, 3) := by decide +kernel
theorem d_Md_rank_168 : decode b_Md_rank 168 = .ok (.ifCond .eq (13), 3) := by decide +kernel
theorem d_Md_rank_171 : decode b_Md_rank 171 = .ok (.iload 4, 2) := by decide +kernel
theorem d_Md_rank_173 : decode b_Md_rank 173 = .ok (.iload_n 1, 1) := by decide +kernel
theorem d_Md_rank_174 : decode b_Md_rank 174 = .ok (.if_icmp .ne (7), 3) := by decide +kernel
theorem d_Md_rank_177 : decode b_Md_rank 177 = .ok (.iload_n 3, 1) := by decide +kernel
theorem d_Md_rank_178 : decode b_Md_rank 178 = .ok (.goto (4), 3) := by decide +kernel
theorem d_Md_rank_181 : decode b_Md_rank 181 = .ok (.iload_n 2, 1) := by decide +kernel
theorem d_Md_rank_182 : decode b_Md_rank 182 = .ok (.istore_n 2, 1) := by decide +kernel
theorem d_Md_rank_183 : decode b_Md_rank 183 = .ok (.iinc 3 (1), 3) := by decide +kernel
theorem d_Md_rank_186 : decode b_Md_rank 186 = .ok (.goto (-137), 3) := by decide +kernel
theorem d_Md_rank_189 : decode b_Md_rank 189 = .ok (.iload_n 2, 1) := by decide +kernel
theorem d_Md_rank_190 : decode b_Md_rank 190 = .ok (.ireturn, 1) := by decide +kernel
theorem d_Md_findSizes_0 : decode b_Md_findSizes 0 = .ok (.iconst (0), 1) := by decide +kernel
theorem d_Md_findSizes_1 : decode b_Md_findSizes 1 = .ok (.istore_n 1, 1) := by decide +kernel
theorem d_Md_findSizes_2 : decode b_Md_findSizes 2 = .ok (.iload_n 1, 1) := by decide +kernel
theorem d_Md_findSizes_3 : decode b_Md_findSizes 3 = .ok (.aload_n 0, 1) := by decide +kernel
theorem d_Md_findSizes_4 : decode b_Md_findSizes 4 = .ok (.getfield 63, 3) := by decide +kernel
theorem d_Md_findSizes_7 : decode b_Md_findSizes 7 = .ok (.if_icmp .ge (49), 3) := by decide +kernel
theorem d_Md_findSizes_10 : decode b_Md_findSizes 10 = .ok (.aload_n 0, 1) := by decide +kernel
theorem d_Md_findSizes_11 : decode b_Md_findSizes 11 = .ok (.iload_n 1, 1) := by decide +kernel
theorem d_Md_findSizes_12 : decode b_Md_findSizes 12 = .ok (.invokevirtual 115, 3) := by decide +kernel
theorem d_Md_findSizes_15 : decode b_Md_findSizes 15 = .ok (.ifCond .ne (7), 3) := by decide +kernel
theorem d_Md_findSizes_18 : decode b_Md_findSizes 18 = .ok (.lconst 0, 1) := by decide +kernel
theorem d_Md_findSizes_19 : decode b_Md_findSizes 19 = .ok (.goto (12), 3) := by decide +kernel
theorem d_Md_findSizes_22 : decode b_Md_findSizes 22 = .ok (.aload_n 0, 1) := by decide +kernel
theorem d_Md_findSizes_23 : decode b_Md_findSizes 23 = .ok (.aload_n 0, 1) := by decide +kernel
theorem d_Md_findSizes_24 : decode b_Md_findSizes 24 = .ok (.iload_n 1, 1) := by decide +kernel
theorem d_Md_findSizes_25 : decode b_Md_findSizes 25 = .ok (.invokevirtual 115, 3) := by decide +kernel
theorem d_Md_findSizes_28 : decode b_Md_findSizes 28 = .ok (.invokevirtual 132, 3) := by decide +kernel
theorem d_Md_findSizes_31 : decode b_Md_findSizes 31 = .ok (.lstore_n 2, 1) := by decide +kernel
theorem d_Md_findSizes_32 : decode b_Md_findSizes 32 = .ok (.aload_n 0, 1) := by decide +kernel
theorem d_Md_findSizes_33 : decode b_Md_findSizes 33 = .ok (.getfield 54, 3) := by decide +kernel
theorem d_Md_findSizes_36 : decode b_Md_findSizes 36 = .ok (.iload_n 1, 1) := by decide +kernel
theorem d_Md_findSizes_37 : decode b_Md_findSizes 37 = .ok (.lload_n 2, 1) := by decide +kernel
theorem d_Md_findSizes_38 : decode b_Md_findSizes 38 = .ok (.lconst 0, 1) := by decide +kernel
theorem d_Md_findSizes_39 : decode b_Md_findSizes 39 = .ok (.lcmp, 1) := by decide +kernel
theorem d_Md_findSizes_40 : decode b_Md_findSizes 40 = .ok (.ifCond .ge (8), 3) := by decide +kernel
theorem d_Md_findSizes_43 : decode b_Md_findSizes 43 = .ok (.lload_n 2, 1) := by decide +kernel
theorem d_Md_findSizes_44 : decode b_Md_findSizes 44 = .ok (.lneg, 1) := by decide +kernel
theorem d_Md_findSizes_45 : decode b_Md_findSizes 45 = .ok (.goto (4), 3) := by decide +kernel
theorem d_Md_findSizes_48 : decode b_Md_findSizes 48 = .ok (.lload_n 2, 1) := by decide +kernel
theorem d_Md_findSizes_49 : decode b_Md_findSizes 49 = .ok (.lastore, 1) := by decide +kernel
theorem d_Md_findSizes_50 : decode b_Md_findSizes 50 = .ok (.iinc 1 (1), 3) := by decide +kernel
theorem d_Md_findSizes_53 : decode b_Md_findSizes 53 = .ok (.goto (-51), 3) := by decide +kernel
theorem d_Md_findSizes_56 : decode b_Md_findSizes 56 = .ok (.return_, 1) := by decide +kernel
theorem d_Md_bar_0 : decode b_Md_bar 0 = .ok (.aload_n 0, 1) := by decide +kernel
theorem d_Md_bar_1 : decode b_Md_bar 1 = .ok (.iconst (0), 1) := by decide +kernel
theorem d_Md_bar_2 : decode b_Md_bar 2 = .ok (.putfield 71, 3) := by decide +kernel
theorem d_Md_bar_5 : decode b_Md_bar 5 = .ok (.aload_n 0, 1) := by decide +kernel
theorem d_Md_bar_6 : decode b_Md_bar 6 = .ok (.iload_n 1, 1) := by decide +kernel
theorem d_Md_bar_7 : decode b_Md_bar 7 = .ok (.invokevirtual 81, 3) := by decide +kernel
theorem d_Md_bar_10 : decode b_Md_bar 10 = .ok (.ifCond .ne (5), 3) := by decide +kernel
theorem d_Md_bar_13 : decode b_Md_bar 13 = .ok (.iconst (-1), 1) := by decide +kernel
theorem d_Md_bar_14 : decode b_Md_bar 14 = .ok (.ireturn, 1) := by decide +kernel
theorem d_Md_bar_15 : decode b_Md_bar 15 = .ok (.aload_n 0, 1) := by decide +kernel
theorem d_Md_bar_16 : decode b_Md_bar 16 = .ok (.getfield 35, 3) := by decide +kernel
theorem d_Md_bar_19 : decode b_Md_bar 19 = .ok (.iload_n 1, 1) := by decide +kernel
theorem d_Md_bar_20 : decode b_Md_bar 20 = .ok (.baload, 1) := by decide +kernel
theorem d_Md_bar_21 : decode b_Md_bar 21 = .ok (.ifCond .eq (7), 3) := by decide +kernel
theorem d_Md_bar_24 : decode b_Md_bar 24 = .ok (.iconst (1), 1) := by decide +kernel
theorem d_Md_bar_25 : decode b_Md_bar 25 = .ok (.goto (4), 3) := by decide +kernel
theorem d_Md_bar_28 : decode b_Md_bar 28 = .ok (.iconst (0), 1) := by decide +kernel
theorem d_Md_bar_29 : decode b_Md_bar 29 = .ok (.istore_n 3, 1) := by decide +kernel
theorem d_Md_bar_30 : decode b_Md_bar 30 = .ok (.aload_n 0, 1) := by decide +kernel
theorem d_Md_bar_31 : decode b_Md_bar 31 = .ok (.getfield 35, 3) := by decide +kernel
theorem d_Md_bar_34 : decode b_Md_bar 34 = .ok (.iload_n 1, 1) := by decide +kernel
theorem d_Md_bar_35 : decode b_Md_bar 35 = .ok (.iload_n 2, 1) := by decide +kernel
theorem d_Md_bar_36 : decode b_Md_bar 36 = .ok (.bastore, 1) := by decide +kernel
theorem d_Md_bar_37 : decode b_Md_bar 37 = .ok (.iload_n 3, 1) := by decide +kernel
theorem d_Md_bar_38 : decode b_Md_bar 38 = .ok (.ireturn, 1) := by decide +kernel
theorem d_Md_nearest_0 : decode b_Md_nearest 0 = .ok (.aload_n 0, 1) := by decide +kernel
theorem d_Md_nearest_1 : decode b_Md_nearest 1 = .ok (.iconst (0), 1) := by decide +kernel
theorem d_Md_nearest_2 : decode b_Md_nearest 2 = .ok (.putfield 71, 3) := by decide +kernel
theorem d_Md_nearest_5 : decode b_Md_nearest 5 = .ok (.aload_n 0, 1) := by decide +kernel
theorem d_Md_nearest_6 : decode b_Md_nearest 6 = .ok (.iload_n 1, 1) := by decide +kernel
theorem d_Md_nearest_7 : decode b_Md_nearest 7 = .ok (.invokevirtual 156, 3) := by decide +kernel
theorem d_Md_nearest_10 : decode b_Md_nearest 10 = .ok (.ifCond .eq (10), 3) := by decide +kernel
theorem d_Md_nearest_13 : decode b_Md_nearest 13 = .ok (.aload_n 0, 1) := by decide +kernel
theorem d_Md_nearest_14 : decode b_Md_nearest 14 = .ok (.getfield 143, 3) := by decide +kernel
theorem d_Md_nearest_17 : decode b_Md_nearest 17 = .ok (.goto (5), 3) := by decide +kernel
theorem d_Md_nearest_20 : decode b_Md_nearest 20 = .ok (.bipush (-3), 2) := by decide +kernel
theorem d_Md_nearest_22 : decode b_Md_nearest 22 = .ok (.ireturn, 1) := by decide +kernel
theorem d_Md_findNearest_0 : decode b_Md_findNearest 0 = .ok (.iconst (0), 1) := by decide +kernel
theorem d_Md_findNearest_1 : decode b_Md_findNearest 1 = .ok (.istore_n 2, 1) := by decide +kernel
theorem d_Md_findNearest_2 : decode b_Md_findNearest 2 = .ok (.iload_n 2, 1) := by decide +kernel
theorem d_Md_findNearest_3 : decode b_Md_findNearest 3 = .ok (.aload_n 0, 1) := by decide +kernel
theorem d_Md_findNearest_4 : decode b_Md_findNearest 4 = .ok (.getfield 63, 3) := by decide +kernel
theorem d_Md_findNearest_7 : decode b_Md_findNearest 7 = .ok (.if_icmp .ge (16), 3) := by decide +kernel
theorem d_Md_findNearest_10 : decode b_Md_findNearest 10 = .ok (.aload_n 0, 1) := by decide +kernel
theorem d_Md_findNearest_11 : decode b_Md_findNearest 11 = .ok (.getfield 57, 3) := by decide +kernel
theorem d_Md_findNearest_14 : decode b_Md_findNearest 14 = .ok (.iload_n 2, 1) := by decide +kernel
theorem d_Md_findNearest_15 : decode b_Md_findNearest 15 = .ok (.iconst (0), 1) := by decide +kernel
theorem d_Md_findNearest_16 : decode b_Md_findNearest 16 = .ok (.iastore, 1) := by decide +kernel
theorem d_Md_findNearest_17 : decode b_Md_findNearest 17 = .ok (.iinc 2 (1), 3) := by decide +kernel
theorem d_Md_findNearest_20 : decode b_Md_findNearest 20 = .ok (.goto (-18), 3) := by decide +kernel
theorem d_Md_findNearest_23 : decode b_Md_findNearest 23 = .ok (.iconst (0), 1) := by decide +kernel
theorem d_Md_findNearest_24 : decode b_Md_findNearest 24 = .ok (.istore_n 2, 1) := by decide +kernel
theorem d_Md_findNearest_25 : decode b_Md_findNearest 25 = .ok (.iconst (0), 1) := by decide +kernel
theorem d_Md_findNearest_26 : decode b_Md_findNearest 26 = .ok (.istore_n 3, 1) := by decide +kernel
theorem d_Md_findNearest_27 : decode b_Md_findNearest 27 = .ok (.iload_n 3, 1) := by decide +kernel
theorem d_Md_findNearest_28 : decode b_Md_findNearest 28 = .ok (.aload_n 0, 1) := by decide +kernel
theorem d_Md_findNearest_29 : decode b_Md_findNearest 29 = .ok (.getfield 63, 3) := by decide +kernel
theorem d_Md_findNearest_32 : decode b_Md_findNearest 32 = .ok (.if_icmp .ge (128), 3) := by decide +kernel
theorem d_Md_findNearest_35 : decode b_Md_findNearest 35 = .ok (.iconst (0), 1) := by decide +kernel
theorem d_Md_findNearest_36 : decode b_Md_findNearest 36 = .ok (.istore 4, 2) := by decide +kernel
theorem d_Md_findNearest_38 : decode b_Md_findNearest 38 = .ok (.iload 4, 2) := by decide +kernel
theorem d_Md_findNearest_40 : decode b_Md_findNearest 40 = .ok (.aload_n 0, 1) := by decide +kernel
theorem d_Md_findNearest_41 : decode b_Md_findNearest 41 = .ok (.getfield 63, 3) := by decide +kernel
theorem d_Md_findNearest_44 : decode b_Md_findNearest 44 = .ok (.if_icmp .ge (34), 3) := by decide +kernel
theorem d_Md_findNearest_47 : decode b_Md_findNearest 47 = .ok (.aload_n 0, 1) := by decide +kernel
theorem d_Md_findNearest_48 : decode b_Md_findNearest 48 = .ok (.getfield 41, 3) := by decide +kernel
theorem d_Md_findNearest_51 : decode b_Md_findNearest 51 = .ok (.iload 4, 2) := by decide +kernel
theorem d_Md_findNearest_53 : decode b_Md_findNearest 53 = .ok (.aload_n 0, 1) := by decide +kernel
theorem d_Md_findNearest_54 : decode b_Md_findNearest 54 = .ok (.getfield 38, 3) := by decide +kernel
theorem d_Md_findNearest_57 : decode b_Md_findNearest 57 = .ok (.bipush (6), 2) := by decide +kernel
theorem d_Md_findNearest_59 : decode b_Md_findNearest 59 = .ok (.aload_n 0, 1) := by decide +kernel
theorem d_Md_findNearest_60 : decode b_Md_findNearest 60 = .ok (.getfield 57, 3) := by decide +kernel
theorem d_Md_findNearest_63 : decode b_Md_findNearest 63 = .ok (.iload 4, 2) := by decide +kernel
theorem d_Md_findNearest_65 : decode b_Md_findNearest 65 = .ok (.iaload, 1) := by decide +kernel
theorem d_Md_findNearest_66 : decode b_Md_findNearest 66 = .ok (.imul, 1) := by decide +kernel
theorem d_Md_findNearest_67 : decode b_Md_findNearest 67 = .ok (.iload 4, 2) := by decide +kernel
theorem d_Md_findNearest_69 : decode b_Md_findNearest 69 = .ok (.iadd, 1) := by decide +kernel
theorem d_Md_findNearest_70 : decode b_Md_findNearest 70 = .ok (.iaload, 1) := by decide +kernel
theorem d_Md_findNearest_71 : decode b_Md_findNearest 71 = .ok (.iastore, 1) := by decide +kernel
theorem d_Md_findNearest_72 : decode b_Md_findNearest 72 = .ok (.iinc 4 (1), 3) := by decide +kernel
theorem d_Md_findNearest_75 : decode b_Md_findNearest 75 = .ok (.goto (-37), 3) := by decide +kernel
theorem d_Md_findNearest_78 : decode b_Md_findNearest 78 = .ok (.aload_n 0, 1) := by decide +kernel
theorem d_Md_findNearest_79 : decode b_Md_findNearest 79 = .ok (.invokevirtual 97, 3) := by decide +kernel
theorem d_Md_findNearest_82 : decode b_Md_findNearest 82 = .ok (.iload_n 1, 1) := by decide +kernel
theorem d_Md_findNearest_83 : decode b_Md_findNearest 83 = .ok (.i2l, 1) := by decide +kernel
theorem d_Md_findNearest_84 : decode b_Md_findNearest 84 = .ok (.lcmp, 1) := by decide +kernel
theorem d_Md_findNearest_85 : decode b_Md_findNearest 85 = .ok (.ifCond .lt (18), 3) := by decide +kernel
theorem d_Md_findNearest_88 : decode b_Md_findNearest 88 = .ok (.aload_n 0, 1) := by decide +kernel
theorem d_Md_findNearest_89 : decode b_Md_findNearest 89 = .ok (.iload_n 2, 1) := by decide +kernel
theorem d_Md_findNearest_90 : decode b_Md_findNearest 90 = .ok (.ifCond .ne (7), 3) := by decide +kernel
theorem d_Md_findNearest_93 : decode b_Md_findNearest 93 = .ok (.iconst (1), 1) := by decide +kernel
theorem d_Md_findNearest_94 : decode b_Md_findNearest 94 = .ok (.goto (4), 3) := by decide +kernel
theorem d_Md_findNearest_97 : decode b_Md_findNearest 97 = .ok (.iconst (0), 1) := by decide +kernel
theorem d_Md_findNearest_98 : decode b_Md_findNearest 98 = .ok (.invokevirtual 149, 3) := by decide +kernel
theorem d_Md_findNearest_101 : decode b_Md_findNearest 101 = .ok (.iconst (1), 1) := by decide +kernel
theorem d_Md_findNearest_102 : decode b_Md_findNearest 102 = .ok (.istore_n 2, 1) := by decide +kernel
theorem d_Md_findNearest_103 : decode b_Md_findNearest 103 = .ok (.iconst (0), 1) := by decide +kernel
theorem d_Md_findNearest_104 : decode b_Md_findNearest 104 = .ok (.istore_n 3, 1) := by decide +kernel
theorem d_Md_findNearest_105 : decode b_Md_findNearest 105 = .ok (.iload_n 3, 1) := by decide +kernel
theorem d_Md_findNearest_106 : decode b_Md_findNearest 106 = .ok (.aload_n 0, 1) := by decide +kernel
theorem d_Md_findNearest_107 : decode b_Md_findNearest 107 = .ok (.getfield 63, 3) := by decide +kernel
theorem d_Md_findNearest_110 : decode b_Md_findNearest 110 = .ok (.if_icmp .ge (28), 3) := by decide +kernel
theorem d_Md_findNearest_113 : decode b_Md_findNearest 113 = .ok (.aload_n 0, 1) := by decide +kernel
theorem d_Md_findNearest_114 : decode b_Md_findNearest 114 = .ok (.iload_n 3, 1) := by decide +kernel
theorem d_Md_findNearest_115 : decode b_Md_findNearest 115 = .ok (.invokevirtual 153, 3) := by decide +kernel
theorem d_Md_findNearest_118 : decode b_Md_findNearest 118 = .ok (.aload_n 0, 1) := by decide +kernel
theorem d_Md_findNearest_119 : decode b_Md_findNearest 119 = .ok (.getfield 88, 3) := by decide +kernel
theorem d_Md_findNearest_122 : decode b_Md_findNearest 122 = .ok (.if_icmp .le (16), 3) := by decide +kernel
theorem d_Md_findNearest_125 : decode b_Md_findNearest 125 = .ok (.aload_n 0, 1) := by decide +kernel
theorem d_Md_findNearest_126 : decode b_Md_findNearest 126 = .ok (.getfield 57, 3) := by decide +kernel
theorem d_Md_findNearest_129 : decode b_Md_findNearest 129 = .ok (.iload_n 3, 1) := by decide +kernel
theorem d_Md_findNearest_130 : decode b_Md_findNearest 130 = .ok (.iconst (0), 1) := by decide +kernel
theorem d_Md_findNearest_131 : decode b_Md_findNearest 131 = .ok (.iastore, 1) := by decide +kernel
theorem d_Md_findNearest_132 : decode b_Md_findNearest 132 = .ok (.iinc 3 (1), 3) := by decide +kernel
theorem d_Md_findNearest_135 : decode b_Md_findNearest 135 = .ok (.goto (-30), 3) := by decide +kernel
theorem d_Md_findNearest_138 : decode b_Md_findNearest 138 = .ok (.iload_n 3, 1) := by decide +kernel
theorem d_Md_findNearest_139 : decode b_Md_findNearest 139 = .ok (.aload_n 0, 1) := by decide +kernel
theorem d_Md_findNearest_140 : decode b_Md_findNearest 140 = .ok (.getfield 63, 3) := by decide +kernel
theorem d_Md_findNearest_143 : decode b_Md_findNearest 143 = .ok (.if_icmp .ge (-116), 3) := by decide +kernel
theorem d_Md_findNearest_146 : decode b_Md_findNearest 146 = .ok (.aload_n 0, 1) := by decide +kernel
theorem d_Md_findNearest_147 : decode b_Md_findNearest 147 = .ok (.getfield 57, 3) := by decide +kernel
theorem d_Md_findNearest_150 : decode b_Md_findNearest 150 = .ok (.iload_n 3, 1) := by decide +kernel
theorem d_Md_findNearest_151 : decode b_Md_findNearest 151 = .ok (.aload_n 0, 1) := by decide +kernel
theorem d_Md_findNearest_152 : decode b_Md_findNearest 152 = .ok (.iload_n 3, 1) := by decide +kernel
theorem d_Md_findNearest_153 : decode b_Md_findNearest 153 = .ok (.invokevirtual 153, 3) := by decide +kernel
theorem d_Md_findNearest_156 : decode b_Md_findNearest 156 = .ok (.iastore, 1) := by decide +kernel
theorem d_Md_findNearest_157 : decode b_Md_findNearest 157 = .ok (.goto (-130), 3) := by decide +kernel
theorem d_Md_findNearest_160 : decode b_Md_findNearest 160 = .ok (.iload_n 2, 1) := by decide +kernel
theorem d_Md_findNearest_161 : decode b_Md_findNearest 161 = .ok (.ireturn, 1) := by decide +kernel
theorem d_Md_hold_0 : decode b_Md_hold 0 = .ok (.iconst (0), 1) := by decide +kernel
theorem d_Md_hold_1 : decode b_Md_hold 1 = .ok (.istore_n 2, 1) := by decide +kernel
theorem d_Md_hold_2 : decode b_Md_hold 2 = .ok (.iconst (0), 1) := by decide +kernel
theorem d_Md_hold_3 : decode b_Md_hold 3 = .ok (.istore_n 3, 1) := by decide +kernel
theorem d_Md_hold_4 : decode b_Md_hold 4 = .ok (.iconst (0), 1) := by decide +kernel
theorem d_Md_hold_5 : decode b_Md_hold 5 = .ok (.istore 4, 2) := by decide +kernel
theorem d_Md_hold_7 : decode b_Md_hold 7 = .ok (.iconst (0), 1) := by decide +kernel
theorem d_Md_hold_8 : decode b_Md_hold 8 = .ok (.istore 5, 2) := by decide +kernel
theorem d_Md_hold_10 : decode b_Md_hold 10 = .ok (.iload 5, 2) := by decide +kernel
theorem d_Md_hold_12 : decode b_Md_hold 12 = .ok (.aload_n 0, 1) := by decide +kernel
theorem d_Md_hold_13 : decode b_Md_hold 13 = .ok (.getfield 63, 3) := by decide +kernel
theorem d_Md_hold_16 : decode b_Md_hold 16 = .ok (.if_icmp .ge (82), 3) := by decide +kernel
theorem d_Md_hold_19 : decode b_Md_hold 19 = .ok (.aload_n 0, 1) := by decide +kernel
theorem d_Md_hold_20 : decode b_Md_hold 20 = .ok (.getfield 41, 3) := by decide +kernel
theorem d_Md_hold_23 : decode b_Md_hold 23 = .ok (.iload 5, 2) := by decide +kernel
theorem d_Md_hold_25 : decode b_Md_hold 25 = .ok (.iaload, 1) := by decide +kernel
theorem d_Md_hold_26 : decode b_Md_hold 26 = .ok (.aload_n 0, 1) := by decide +kernel
theorem d_Md_hold_27 : decode b_Md_hold 27 = .ok (.getfield 38, 3) := by decide +kernel
theorem d_Md_hold_30 : decode b_Md_hold 30 = .ok (.iload 5, 2) := by decide +kernel
theorem d_Md_hold_32 : decode b_Md_hold 32 = .ok (.iaload, 1) := by decide +kernel
theorem d_Md_hold_33 : decode b_Md_hold 33 = .ok (.isub, 1) := by decide +kernel
theorem d_Md_hold_34 : decode b_Md_hold 34 = .ok (.istore 6, 2) := by decide +kernel
theorem d_Md_hold_36 : decode b_Md_hold 36 = .ok (.iload_n 2, 1) := by decide +kernel
theorem d_Md_hold_37 : decode b_Md_hold 37 = .ok (.iload 6, 2) := by decide +kernel
theorem d_Md_hold_39 : decode b_Md_hold 39 = .ok (.ifCond .eq (7), 3) := by decide +kernel
theorem d_Md_hold_42 : decode b_Md_hold 42 = .ok (.iconst (1), 1) := by decide +kernel
theorem d_Md_hold_43 : decode b_Md_hold 43 = .ok (.goto (4), 3) := by decide +kernel
theorem d_Md_hold_46 : decode b_Md_hold 46 = .ok (.iconst (0), 1) := by decide +kernel
theorem d_Md_hold_47 : decode b_Md_hold 47 = .ok (.iadd, 1) := by decide +kernel
theorem d_Md_hold_48 : decode b_Md_hold 48 = .ok (.istore_n 2, 1) := by decide +kernel
theorem d_Md_hold_49 : decode b_Md_hold 49 = .ok (.iload_n 3, 1) := by decide +kernel
theorem d_Md_hold_50 : decode b_Md_hold 50 = .ok (.iload 6, 2) := by decide +kernel
theorem d_Md_hold_52 : decode b_Md_hold 52 = .ok (.ifCond .ge (9), 3) := by decide +kernel
theorem d_Md_hold_55 : decode b_Md_hold 55 = .ok (.iload 6, 2) := by decide +kernel
theorem d_Md_hold_57 : decode b_Md_hold 57 = .ok (.ineg, 1) := by decide +kernel
theorem d_Md_hold_58 : decode b_Md_hold 58 = .ok (.goto (5), 3) := by decide +kernel
theorem d_Md_hold_61 : decode b_Md_hold 61 = .ok (.iload 6, 2) := by decide +kernel
theorem d_Md_hold_63 : decode b_Md_hold 63 = .ok (.iadd, 1) := by decide +kernel
theorem d_Md_hold_64 : decode b_Md_hold 64 = .ok (.istore_n 3, 1) := by decide +kernel
theorem d_Md_hold_65 : decode b_Md_hold 65 = .ok (.iload 4, 2) := by decide +kernel
theorem d_Md_hold_67 : decode b_Md_hold 67 = .ok (.ifCond .ne (21), 3) := by decide +kernel
theorem d_Md_hold_70 : decode b_Md_hold 70 = .ok (.aload_n 0, 1) := by decide +kernel
theorem d_Md_hold_71 : decode b_Md_hold 71 = .ok (.getfield 41, 3) := by decide +kernel
theorem d_Md_hold_74 : decode b_Md_hold 74 = .ok (.iload 5, 2) := by decide +kernel
theorem d_Md_hold_76 : decode b_Md_hold 76 = .ok (.iaload, 1) := by decide +kernel
theorem d_Md_hold_77 : decode b_Md_hold 77 = .ok (.aload_n 0, 1) := by decide +kernel
theorem d_Md_hold_78 : decode b_Md_hold 78 = .ok (.getfield 60, 3) := by decide +kernel
theorem d_Md_hold_81 : decode b_Md_hold 81 = .ok (.iload 5, 2) := by decide +kernel
theorem d_Md_hold_83 : decode b_Md_hold 83 = .ok (.iaload, 1) := by decide +kernel
theorem d_Md_hold_84 : decode b_Md_hold 84 = .ok (.isub, 1) := by decide +kernel
theorem d_Md_hold_85 : decode b_Md_hold 85 = .ok (.goto (5), 3) := by decide +kernel
theorem d_Md_hold_88 : decode b_Md_hold 88 = .ok (.iload 4, 2) := by decide +kernel
theorem d_Md_hold_90 : decode b_Md_hold 90 = .ok (.istore 4, 2) := by decide +kernel
theorem d_Md_hold_92 : decode b_Md_hold 92 = .ok (.iinc 5 (1), 3) := by decide +kernel
theorem d_Md_hold_95 : decode b_Md_hold 95 = .ok (.goto (-85), 3) := by decide +kernel
theorem d_Md_hold_98 : decode b_Md_hold 98 = .ok (.iload_n 1, 1) := by decide +kernel
theorem d_Md_hold_99 : decode b_Md_hold 99 = .ok (.ifCond .ne (40), 3) := by decide +kernel
theorem d_Md_hold_102 : decode b_Md_hold 102 = .ok (.iload_n 2, 1) := by decide +kernel
theorem d_Md_hold_103 : decode b_Md_hold 103 = .ok (.aload_n 0, 1) := by decide +kernel
theorem d_Md_hold_104 : decode b_Md_hold 104 = .ok (.getfield 143, 3) := by decide +kernel
theorem d_Md_hold_107 : decode b_Md_hold 107 = .ok (.if_icmp .lt (32), 3) := by decide +kernel
theorem d_Md_hold_110 : decode b_Md_hold 110 = .ok (.iload_n 2, 1) := by decide +kernel
theorem d_Md_hold_111 : decode b_Md_hold 111 = .ok (.aload_n 0, 1) := by decide +kernel
theorem d_Md_hold_112 : decode b_Md_hold 112 = .ok (.getfield 143, 3) := by decide +kernel
theorem d_Md_hold_115 : decode b_Md_hold 115 = .ok (.if_icmp .ne (66), 3) := by decide +kernel
theorem d_Md_hold_118 : decode b_Md_hold 118 = .ok (.iload_n 3, 1) := by decide +kernel
theorem d_Md_hold_119 : decode b_Md_hold 119 = .ok (.aload_n 0, 1) := by decide +kernel
theorem d_Md_hold_120 : decode b_Md_hold 120 = .ok (.getfield 146, 3) := by decide +kernel
theorem d_Md_hold_123 : decode b_Md_hold 123 = .ok (.if_icmp .lt (16), 3) := by decide +kernel
theorem d_Md_hold_126 : decode b_Md_hold 126 = .ok (.iload_n 3, 1) := by decide +kernel
theorem d_Md_hold_127 : decode b_Md_hold 127 = .ok (.aload_n 0, 1) := by decide +kernel
theorem d_Md_hold_128 : decode b_Md_hold 128 = .ok (.getfield 146, 3) := by decide +kernel
theorem d_Md_hold_131 : decode b_Md_hold 131 = .ok (.if_icmp .ne (50), 3) := by decide +kernel
theorem d_Md_hold_134 : decode b_Md_hold 134 = .ok (.iload 4, 2) := by decide +kernel
theorem d_Md_hold_136 : decode b_Md_hold 136 = .ok (.ifCond .ge (45), 3) := by decide +kernel
theorem d_Md_hold_139 : decode b_Md_hold 139 = .ok (.aload_n 0, 1) := by decide +kernel
theorem d_Md_hold_140 : decode b_Md_hold 140 = .ok (.iload_n 2, 1) := by decide +kernel
theorem d_Md_hold_141 : decode b_Md_hold 141 = .ok (.putfield 143, 3) := by decide +kernel
theorem d_Md_hold_144 : decode b_Md_hold 144 = .ok (.aload_n 0, 1) := by decide +kernel
theorem d_Md_hold_145 : decode b_Md_hold 145 = .ok (.iload_n 3, 1) := by decide +kernel
theorem d_Md_hold_146 : decode b_Md_hold 146 = .ok (.putfield 146, 3) := by decide +kernel
theorem d_Md_hold_149 : decode b_Md_hold 149 = .ok (.iconst (0), 1) := by decide +kernel
theorem d_Md_hold_150 : decode b_Md_hold 150 = .ok (.istore 5, 2) := by decide +kernel
theorem d_Md_hold_152 : decode b_Md_hold 152 = .ok (.iload 5, 2) := by decide +kernel
theorem d_Md_hold_154 : decode b_Md_hold 154 = .ok (.aload_n 0, 1) := by decide +kernel
theorem d_Md_hold_155 : decode b_Md_hold 155 = .ok (.getfield 63, 3) := by decide +kernel
theorem d_Md_hold_158 : decode b_Md_hold 158 = .ok (.if_icmp .ge (23), 3) := by decide +kernel
theorem d_Md_hold_161 : decode b_Md_hold 161 = .ok (.aload_n 0, 1) := by decide +kernel
theorem d_Md_hold_162 : decode b_Md_hold 162 = .ok (.getfield 60, 3) := by decide +kernel
theorem d_Md_hold_165 : decode b_Md_hold 165 = .ok (.iload 5, 2) := by decide +kernel
theorem d_Md_hold_167 : decode b_Md_hold 167 = .ok (.aload_n 0, 1) := by decide +kernel
theorem d_Md_hold_168 : decode b_Md_hold 168 = .ok (.getfield 41, 3) := by decide +kernel
theorem d_Md_hold_171 : decode b_Md_hold 171 = .ok (.iload 5, 2) := by decide +kernel
theorem d_Md_hold_173 : decode b_Md_hold 173 = .ok (.iaload, 1) := by decide +kernel
theorem d_Md_hold_174 : decode b_Md_hold 174 = .ok (.iastore, 1) := by decide +kernel
theorem d_Md_hold_175 : decode b_Md_hold 175 = .ok (.iinc 5 (1), 3) := by decide +kernel
theorem d_Md_hold_178 : decode b_Md_hold 178 = .ok (.goto (-26), 3) := by decide +kernel
theorem d_Md_hold_181 : decode b_Md_hold 181 = .ok (.return_, 1) := by decide +kernel
theorem d_Md_next_0 : decode b_Md_next 0 = .ok (.aload_n 0, 1) := by decide +kernel
theorem d_Md_next_1 : decode b_Md_next 1 = .ok (.getfield 57, 3) := by decide +kernel
theorem d_Md_next_4 : decode b_Md_next 4 = .ok (.iload_n 1, 1) := by decide +kernel
theorem d_Md_next_5 : decode b_Md_next 5 = .ok (.iaload, 1) := by decide +kernel
theorem d_Md_next_6 : decode b_Md_next 6 = .ok (.iconst (1), 1) := by decide +kernel
theorem d_Md_next_7 : decode b_Md_next 7 = .ok (.iadd, 1) := by decide +kernel
theorem d_Md_next_8 : decode b_Md_next 8 = .ok (.istore_n 2, 1) := by decide +kernel
theorem d_Md_next_9 : decode b_Md_next 9 = .ok (.iconst (0), 1) := by decide +kernel
theorem d_Md_next_10 : decode b_Md_next 10 = .ok (.istore_n 3, 1) := by decide +kernel
theorem d_Md_next_11 : decode b_Md_next 11 = .ok (.iload_n 2, 1) := by decide +kernel
theorem d_Md_next_12 : decode b_Md_next 12 = .ok (.aload_n 0, 1) := by decide +kernel
theorem d_Md_next_13 : decode b_Md_next 13 = .ok (.getfield 88, 3) := by decide +kernel
theorem d_Md_next_16 : decode b_Md_next 16 = .ok (.if_icmp .gt (75), 3) := by decide +kernel
theorem d_Md_next_19 : decode b_Md_next 19 = .ok (.iload_n 3, 1) := by decide +kernel
theorem d_Md_next_20 : decode b_Md_next 20 = .ok (.ifCond .ne (71), 3) := by decide +kernel
theorem d_Md_next_23 : decode b_Md_next 23 = .ok (.iconst (1), 1) := by decide +kernel
theorem d_Md_next_24 : decode b_Md_next 24 = .ok (.istore_n 3, 1) := by decide +kernel
theorem d_Md_next_25 : decode b_Md_next 25 = .ok (.iconst (0), 1) := by decide +kernel
theorem d_Md_next_26 : decode b_Md_next 26 = .ok (.istore 4, 2) := by decide +kernel
theorem d_Md_next_28 : decode b_Md_next 28 = .ok (.iload 4, 2) := by decide +kernel
theorem d_Md_next_30 : decode b_Md_next 30 = .ok (.iload_n 2, 1) := by decide +kernel
theorem d_Md_next_31 : decode b_Md_next 31 = .ok (.if_icmp .ge (45), 3) := by decide +kernel
theorem d_Md_next_34 : decode b_Md_next 34 = .ok (.iload_n 3, 1) := by decide +kernel
theorem d_Md_next_35 : decode b_Md_next 35 = .ok (.ifCond .eq (33), 3) := by decide +kernel
theorem d_Md_next_38 : decode b_Md_next 38 = .ok (.aload_n 0, 1) := by decide +kernel
theorem d_Md_next_39 : decode b_Md_next 39 = .ok (.getfield 38, 3) := by decide +kernel
theorem d_Md_next_42 : decode b_Md_next 42 = .ok (.bipush (6), 2) := by decide +kernel
theorem d_Md_next_44 : decode b_Md_next 44 = .ok (.iload 4, 2) := by decide +kernel
theorem d_Md_next_46 : decode b_Md_next 46 = .ok (.imul, 1) := by decide +kernel
theorem d_Md_next_47 : decode b_Md_next 47 = .ok (.iload_n 1, 1) := by decide +kernel
theorem d_Md_next_48 : decode b_Md_next 48 = .ok (.iadd, 1) := by decide +kernel
theorem d_Md_next_49 : decode b_Md_next 49 = .ok (.iaload, 1) := by decide +kernel
theorem d_Md_next_50 : decode b_Md_next 50 = .ok (.aload_n 0, 1) := by decide +kernel
theorem d_Md_next_51 : decode b_Md_next 51 = .ok (.getfield 38, 3) := by decide +kernel
theorem d_Md_next_54 : decode b_Md_next 54 = .ok (.bipush (6), 2) := by decide +kernel
theorem d_Md_next_56 : decode b_Md_next 56 = .ok (.iload_n 2, 1) := by decide +kernel
theorem d_Md_next_57 : decode b_Md_next 57 = .ok (.imul, 1) := by decide +kernel
theorem d_Md_next_58 : decode b_Md_next 58 = .ok (.iload_n 1, 1) := by decide +kernel
theorem d_Md_next_59 : decode b_Md_next 59 = .ok (.iadd, 1) := by decide +kernel
theorem d_Md_next_60 : decode b_Md_next 60 = .ok (.iaload, 1) := by decide +kernel
theorem d_Md_next_61 : decode b_Md_next 61 = .ok (.if_icmp .eq (7), 3) := by decide +kernel
theorem d_Md_next_64 : decode b_Md_next 64 = .ok (.iconst (1), 1) := by decide +kernel
theorem d_Md_next_65 : decode b_Md_next 65 = .ok (.goto (4), 3) := by decide +kernel
theorem d_Md_next_68 : decode b_Md_next 68 = .ok (.iconst (0), 1) := by decide +kernel
theorem d_Md_next_69 : decode b_Md_next 69 = .ok (.istore_n 3, 1) := by decide +kernel
theorem d_Md_next_70 : decode b_Md_next 70 = .ok (.iinc 4 (1), 3) := by decide +kernel
theorem d_Md_next_73 : decode b_Md_next 73 = .ok (.goto (-45), 3) := by decide +kernel
theorem d_Md_next_76 : decode b_Md_next 76 = .ok (.iload_n 2, 1) := by decide +kernel
theorem d_Md_next_77 : decode b_Md_next 77 = .ok (.iload_n 3, 1) := by decide +kernel
theorem d_Md_next_78 : decode b_Md_next 78 = .ok (.ifCond .eq (7), 3) := by decide +kernel
theorem d_Md_next_81 : decode b_Md_next 81 = .ok (.iconst (0), 1) := by decide +kernel
theorem d_Md_next_82 : decode b_Md_next 82 = .ok (.goto (4), 3) := by decide +kernel
theorem d_Md_next_85 : decode b_Md_next 85 = .ok (.iconst (1), 1) := by decide +kernel
theorem d_Md_next_86 : decode b_Md_next 86 = .ok (.iadd, 1) := by decide +kernel
theorem d_Md_next_87 : decode b_Md_next 87 = .ok (.istore_n 2, 1) := by decide +kernel
theorem d_Md_next_88 : decode b_Md_next 88 = .ok (.goto (-77), 3) := by decide +kernel
theorem d_Md_next_91 : decode b_Md_next 91 = .ok (.aload_n 0, 1) := by decide +kernel
theorem d_Md_next_92 : decode b_Md_next 92 = .ok (.getfield 35, 3) := by decide +kernel
theorem d_Md_next_95 : decode b_Md_next 95 = .ok (.iload_n 1, 1) := by decide +kernel
theorem d_Md_next_96 : decode b_Md_next 96 = .ok (.baload, 1) := by decide +kernel
theorem d_Md_next_97 : decode b_Md_next 97 = .ok (.ifCond .eq (12), 3) := by decide +kernel
theorem d_Md_next_100 : decode b_Md_next 100 = .ok (.aload_n 0, 1) := by decide +kernel
theorem d_Md_next_101 : decode b_Md_next 101 = .ok (.getfield 88, 3) := by decide +kernel
theorem d_Md_next_104 : decode b_Md_next 104 = .ok (.iconst (1), 1) := by decide +kernel
theorem d_Md_next_105 : decode b_Md_next 105 = .ok (.iadd, 1) := by decide +kernel
theorem d_Md_next_106 : decode b_Md_next 106 = .ok (.goto (4), 3) := by decide +kernel
theorem d_Md_next_109 : decode b_Md_next 109 = .ok (.iload_n 2, 1) := by decide +kernel
theorem d_Md_next_110 : decode b_Md_next 110 = .ok (.ireturn, 1) := by decide +kernel
theorem d_Md_nearestAt_0 : decode b_Md_nearestAt 0 = .ok (.aload_n 0, 1) := by decide +kernel
theorem d_Md_nearestAt_1 : decode b_Md_nearestAt 1 = .ok (.iconst (0), 1) := by decide +kernel
theorem d_Md_nearestAt_2 : decode b_Md_nearestAt 2 = .ok (.putfield 71, 3) := by decide +kernel
theorem d_Md_nearestAt_5 : decode b_Md_nearestAt 5 = .ok (.aload_n 0, 1) := by decide +kernel
theorem d_Md_nearestAt_6 : decode b_Md_nearestAt 6 = .ok (.iload_n 2, 1) := by decide +kernel
theorem d_Md_nearestAt_7 : decode b_Md_nearestAt 7 = .ok (.invokevirtual 81, 3) := by decide +kernel
theorem d_Md_nearestAt_10 : decode b_Md_nearestAt 10 = .ok (.ifCond .eq (21), 3) := by decide +kernel
theorem d_Md_nearestAt_13 : decode b_Md_nearestAt 13 = .ok (.aload_n 0, 1) := by decide +kernel
theorem d_Md_nearestAt_14 : decode b_Md_nearestAt 14 = .ok (.iload_n 1, 1) := by decide +kernel
theorem d_Md_nearestAt_15 : decode b_Md_nearestAt 15 = .ok (.invokevirtual 156, 3) := by decide +kernel
theorem d_Md_nearestAt_18 : decode b_Md_nearestAt 18 = .ok (.ifCond .eq (13), 3) := by decide +kernel
theorem d_Md_nearestAt_21 : decode b_Md_nearestAt 21 = .ok (.aload_n 0, 1) := by decide +kernel
theorem d_Md_nearestAt_22 : decode b_Md_nearestAt 22 = .ok (.getfield 60, 3) := by decide +kernel
theorem d_Md_nearestAt_25 : decode b_Md_nearestAt 25 = .ok (.iload_n 2, 1) := by decide +kernel
theorem d_Md_nearestAt_26 : decode b_Md_nearestAt 26 = .ok (.iaload, 1) := by decide +kernel
theorem d_Md_nearestAt_27 : decode b_Md_nearestAt 27 = .ok (.i2l, 1) := by decide +kernel
theorem d_Md_nearestAt_28 : decode b_Md_nearestAt 28 = .ok (.goto (6), 3) := by decide +kernel
theorem d_Md_nearestAt_31 : decode b_Md_nearestAt 31 = .ok (.ldc2_w 91, 3) := by decide +kernel
theorem d_Md_nearestAt_34 : decode b_Md_nearestAt 34 = .ok (.lreturn, 1) := by decide +kernel
end
section
/-! pure pieces: a guarded value, a bind, a name, a loop with fuel -/
def inb (i : Int32) (n : Nat) : Bool := !(decide (i < 0)) && decide (i.toNatClampNeg < n)
theorem inb_in {i : Int32} {n : Nat} (h : inb i n = true) : vp_in i n := by
  simp only [inb, Bool.and_eq_true, Bool.not_eq_true', decide_eq_false_iff_not, decide_eq_true_eq] at h
  intro q
  rcases q with q | q
  · exact h.1 q
  · exact Nat.not_le.mpr h.2 q
theorem inb_pos {i : Int32} {n : Nat} (h : inb i n = true) : 0 < n := by
  simp only [inb, Bool.and_eq_true, decide_eq_true_eq] at h
  omega
def chk {α : Type} (b : Bool) (k : Option α) : Option α := match b with
  | true => k
  | false => none
theorem chk_some {α : Type} {b : Bool} {k : Option α} {r : α} (h : chk b k = some r) : b = true ∧ k = some r := by
  cases b with
  | true => exact ⟨rfl, h⟩
  | false => cases h
def bnd {α β : Type} (x : Option α) (f : α → Option β) : Option β := match x with
  | none => none
  | some a => f a
theorem bnd_some {α β : Type} {x : Option α} {f : α → Option β} {r : β} (h : bnd x f = some r) : ∃ a, x = some a ∧ f a = some r := by
  cases x with
  | none => cases h
  | some a => exact ⟨a, rfl, h⟩
def nm {α β : Type} (x : α) (f : α → Option β) : Option β := f x
theorem nm_some {α β : Type} {x : α} {f : α → Option β} {r : β} (h : nm x f = some r) : ∃ y, x = y ∧ f y = some r := ⟨x, rfl, h⟩
def itr {σ ρ : Type} : Nat → (σ → Option (σ ⊕ ρ)) → σ → Option ρ
  | 0, _, _ => none
  | n + 1, f, s => match f s with
    | none => none
    | some (.inl t) => itr n f t
    | some (.inr r) => some r
def zEx {σ ρ : Type} (At : σ → Prop) (Ex : ρ → Prop) (x : σ ⊕ ρ) : Prop := match x with
  | .inl t => At t
  | .inr r => Ex r
theorem W_itr {σ ρ : Type} {f : σ → Option (σ ⊕ ρ)} {At : σ → Prop} {Ex : ρ → Prop} (hs : ∀ (s : σ) (x : σ ⊕ ρ), f s = some x → zEx At Ex x → At s) :
    ∀ (n : Nat) (s : σ) (r : ρ), itr n f s = some r → Ex r → At s := by
  intro n
  induction n with
  | zero => intro s r h; cases h
  | succ n ih =>
    intro s r h hr
    unfold itr at h
    cases hf : f s with
    | none => rw [hf] at h; cases h
    | some x =>
      rw [hf] at h
      cases x with
      | inl t => exact hs s _ hf (ih t r h hr)
      | inr q => cases h; exact hs s _ hf hr
def zfu : Nat := 100000
def zush (x y : Int32) : Int32 := (x.toUInt32 >>> (y.toUInt32 &&& Int32.toUInt32 31)).toInt32
def zlsh (x : Int64) (y : Int32) : Int64 := x <<< (y.toInt64 &&& 63)
abbrev Mem : Type := (Nat → Nat → Int32) × (Nat → Nat → Int64)
def wI (M : Mem) (k : Nat) (i : Int32) (v : Int32) : Mem := (fun j => if j = k then upd (M.1 k) i.toNatClampNeg v else M.1 j, M.2)
def wL (M : Mem) (k : Nat) (i : Int32) (v : Int64) : Mem := (M.1, fun j => if j = k then vp_updL (M.2 k) i.toNatClampNeg v else M.2 j)
def wF (M : Mem) (k j : Nat) (v : Int32) : Mem := (fun q => if q = k then upd (M.1 k) j v else M.1 q, M.2)
abbrev zG : Type := (Nat → Nat) × (Nat → ClassId) × va_G
def zbl (v : Int32) : Bool := decide (v &&& 1 = v)
theorem zbl_ok {v : Int32} (h : zbl v = true) : narrow .boolean (.int v) = .int v := congrArg Value.int (of_decide_eq_true h)

def zty (G : zG) : List (ClassId × FieldType) := [(G.2.1 0, .int), (G.2.1 1, .long), (G.2.1 2, .boolean), (G.2.1 3, .array .int)]
def zNest : Cond := Cond.methodLinkNest R_Me 86 y_ES_factorial R_ES
def zK (G : zG) (U : State) : Prop := va_K G.2.2 zcl (zty G) U ∧ va_Nw zNest U
theorem zK_same {G : zG} {u U : State} (h : u.vm = U.vm) (hK : zK G u) : zK G U := ⟨va_K.moved (h ▸ Vm.Alike.refl u.vm) hK.1, va_Nw.same rfl h hK.2⟩
theorem zK_warm {G : zG} {s U : State} (hW : s.WarmedH U.vm) (hK : zK G s) : zK G U := ⟨va_K.moved hW.alike hK.1, va_Nw.warmM hW hK.2⟩
def wlC (G : zG) (M : Mem) : va_W := [(G.1 0, .inr (6, [.int (M.1 0 0), .ref (G.1 1), .ref (G.1 9), .ref (G.1 17), .ref (G.1 19), .ref (G.1 24)])),
  (G.1 1, .inr (0, [.ref (G.1 2), .ref (G.1 3), .ref (G.1 4), .ref (G.1 5), .ref (G.1 6), .ref (G.1 7), .ref (G.1 8), .int (M.1 1 7), .int (M.1 1 8)])),
  (G.1 2, .inl (G.2.1 0, 30, .inl (M.1 2))),
  (G.1 3, .inl (G.2.1 0, 30, .inl (M.1 3))),
  (G.1 4, .inl (G.2.1 0, 30, .inl (M.1 4))),
  (G.1 5, .inl (G.2.1 0, 30, .inl (M.1 5))),
  (G.1 6, .inl (G.2.1 0, 30, .inl (M.1 6))),
  (G.1 7, .inl (G.2.1 0, 4, .inl (M.1 7))),
  (G.1 8, .inl (G.2.1 0, 6, .inl (M.1 8))),
  (G.1 9, .inr (1, [.ref (G.1 10), .ref (G.1 11), .int (M.1 9 2)])),
  (G.1 10, .inl (G.2.1 0, 6, .inl (M.1 10))),
  (G.1 11, .inl (G.2.1 3, 5, .inr (.inr (.inr (.inr (fun i => some (G.1 (12 + i)))))))),
  (G.1 12, .inl (G.2.1 0, 6, .inl (M.1 12))),
  (G.1 13, .inl (G.2.1 0, 6, .inl (M.1 13))),
  (G.1 14, .inl (G.2.1 0, 6, .inl (M.1 14))),
  (G.1 15, .inl (G.2.1 0, 6, .inl (M.1 15))),
  (G.1 16, .inl (G.2.1 0, 6, .inl (M.1 16))),
  (G.1 17, .inr (2, [.int (M.1 17 0), .ref (G.1 18)])),
  (G.1 18, .inl (G.2.1 0, 6, .inl (M.1 18))),
  (G.1 19, .inr (4, [.ref (G.1 1), .ref (G.1 9), .ref (G.1 17), .ref (G.1 22), .ref (G.1 20), .ref (G.1 21)])),
  (G.1 20, .inl (G.2.1 0, 6, .inl (M.1 20))),
  (G.1 21, .inl (G.2.1 1, 6, .inr (.inl (M.2 21)))),
  (G.1 22, .inr (3, [.ref (G.1 17), .ref (G.1 23), .int (M.1 22 2), .int (M.1 22 3)])),
  (G.1 23, .inl (G.2.1 0, 6, .inl (M.1 23))),
  (G.1 24, .inr (5, [.int (M.1 24 0), .ref (G.1 1), .ref (G.1 9), .ref (G.1 25), .ref (G.1 26), .ref (G.1 33), .ref (G.1 34), .ref (G.1 35), .ref (G.1 36), .int (M.1 24 9), .int (M.1 24 10)])),
  (G.1 25, .inl (G.2.1 2, 6, .inl (M.1 25))),
  (G.1 26, .inl (G.2.1 3, 6, .inr (.inr (.inr (.inr (fun i => some (G.1 (27 + i)))))))),
  (G.1 27, .inl (G.2.1 0, 6, .inl (M.1 27))),
  (G.1 28, .inl (G.2.1 0, 6, .inl (M.1 28))),
  (G.1 29, .inl (G.2.1 0, 6, .inl (M.1 29))),
  (G.1 30, .inl (G.2.1 0, 6, .inl (M.1 30))),
  (G.1 31, .inl (G.2.1 0, 6, .inl (M.1 31))),
  (G.1 32, .inl (G.2.1 0, 6, .inl (M.1 32))),
  (G.1 33, .inl (G.2.1 0, 6, .inl (M.1 33))),
  (G.1 34, .inl (G.2.1 0, 6, .inl (M.1 34))),
  (G.1 35, .inl (G.2.1 0, 6, .inl (M.1 35))),
  (G.1 36, .inl (G.2.1 0, 6, .inl (M.1 36)))]
def alenC (k : Nat) : Nat := match k with
  | 2 => 30
  | 3 => 30
  | 4 => 30
  | 5 => 30
  | 6 => 30
  | 7 => 4
  | 8 => 6
  | 10 => 6
  | 12 => 6
  | 13 => 6
  | 14 => 6
  | 15 => 6
  | 16 => 6
  | 18 => 6
  | 20 => 6
  | 23 => 6
  | 27 => 6
  | 28 => 6
  | 29 => 6
  | 30 => 6
  | 31 => 6
  | 32 => 6
  | 33 => 6
  | 34 => 6
  | 35 => 6
  | 36 => 6
  | _ => 0
def blenC (k : Nat) : Nat := match k with
  | 25 => 6
  | _ => 0
def llenC (k : Nat) : Nat := match k with
  | 21 => 6
  | _ => 0
theorem wlAC (G : zG) (M : Mem) (k : Nat) (q : Nat × va_E) (h : (wlC G M)[k]? = some q) : q.1 = G.1 k ∧ k < 37 := by
  match k, h with
  | 0, h => cases h; exact ⟨rfl, by decide⟩
  | 1, h => cases h; exact ⟨rfl, by decide⟩
  | 2, h => cases h; exact ⟨rfl, by decide⟩
  | 3, h => cases h; exact ⟨rfl, by decide⟩
  | 4, h => cases h; exact ⟨rfl, by decide⟩
  | 5, h => cases h; exact ⟨rfl, by decide⟩
  | 6, h => cases h; exact ⟨rfl, by decide⟩
  | 7, h => cases h; exact ⟨rfl, by decide⟩
  | 8, h => cases h; exact ⟨rfl, by decide⟩
  | 9, h => cases h; exact ⟨rfl, by decide⟩
  | 10, h => cases h; exact ⟨rfl, by decide⟩
  | 11, h => cases h; exact ⟨rfl, by decide⟩
  | 12, h => cases h; exact ⟨rfl, by decide⟩
  | 13, h => cases h; exact ⟨rfl, by decide⟩
  | 14, h => cases h; exact ⟨rfl, by decide⟩
  | 15, h => cases h; exact ⟨rfl, by decide⟩
  | 16, h => cases h; exact ⟨rfl, by decide⟩
  | 17, h => cases h; exact ⟨rfl, by decide⟩
  | 18, h => cases h; exact ⟨rfl, by decide⟩
  | 19, h => cases h; exact ⟨rfl, by decide⟩
  | 20, h => cases h; exact ⟨rfl, by decide⟩
  | 21, h => cases h; exact ⟨rfl, by decide⟩
  | 22, h => cases h; exact ⟨rfl, by decide⟩
  | 23, h => cases h; exact ⟨rfl, by decide⟩
  | 24, h => cases h; exact ⟨rfl, by decide⟩
  | 25, h => cases h; exact ⟨rfl, by decide⟩
  | 26, h => cases h; exact ⟨rfl, by decide⟩
  | 27, h => cases h; exact ⟨rfl, by decide⟩
  | 28, h => cases h; exact ⟨rfl, by decide⟩
  | 29, h => cases h; exact ⟨rfl, by decide⟩
  | 30, h => cases h; exact ⟨rfl, by decide⟩
  | 31, h => cases h; exact ⟨rfl, by decide⟩
  | 32, h => cases h; exact ⟨rfl, by decide⟩
  | 33, h => cases h; exact ⟨rfl, by decide⟩
  | 34, h => cases h; exact ⟨rfl, by decide⟩
  | 35, h => cases h; exact ⟨rfl, by decide⟩
  | 36, h => cases h; exact ⟨rfl, by decide⟩
  | k + 37, h => cases h
theorem wl_iC (G : zG) (M : Mem) (k : Nat) (h : 0 < alenC k) : (wlC G M)[k]? = some (G.1 k, .inl (G.2.1 0, alenC k, .inl (M.1 k))) := by
  match k, h with
  | 0, h => exact absurd h (by decide)
  | 1, h => exact absurd h (by decide)
  | 2, h => rfl
  | 3, h => rfl
  | 4, h => rfl
  | 5, h => rfl
  | 6, h => rfl
  | 7, h => rfl
  | 8, h => rfl
  | 9, h => exact absurd h (by decide)
  | 10, h => rfl
  | 11, h => exact absurd h (by decide)
  | 12, h => rfl
  | 13, h => rfl
  | 14, h => rfl
  | 15, h => rfl
  | 16, h => rfl
  | 17, h => exact absurd h (by decide)
  | 18, h => rfl
  | 19, h => exact absurd h (by decide)
  | 20, h => rfl
  | 21, h => exact absurd h (by decide)
  | 22, h => exact absurd h (by decide)
  | 23, h => rfl
  | 24, h => exact absurd h (by decide)
  | 25, h => exact absurd h (by decide)
  | 26, h => exact absurd h (by decide)
  | 27, h => rfl
  | 28, h => rfl
  | 29, h => rfl
  | 30, h => rfl
  | 31, h => rfl
  | 32, h => rfl
  | 33, h => rfl
  | 34, h => rfl
  | 35, h => rfl
  | 36, h => rfl
  | k + 37, h => exact absurd h (by simp [alenC])
theorem wl_siC (G : zG) (M : Mem) (k : Nat) (i : Int32) (v : Int32) (h : 0 < alenC k) : (wlC G M).set k (G.1 k, .inl (G.2.1 0, alenC k, .inl (upd (M.1 k) i.toNatClampNeg v))) = wlC G (wI M k i v) := by
  match k, h with
  | 0, h => exact absurd h (by decide)
  | 1, h => exact absurd h (by decide)
  | 2, h => rfl
  | 3, h => rfl
  | 4, h => rfl
  | 5, h => rfl
  | 6, h => rfl
  | 7, h => rfl
  | 8, h => rfl
  | 9, h => exact absurd h (by decide)
  | 10, h => rfl
  | 11, h => exact absurd h (by decide)
  | 12, h => rfl
  | 13, h => rfl
  | 14, h => rfl
  | 15, h => rfl
  | 16, h => rfl
  | 17, h => exact absurd h (by decide)
  | 18, h => rfl
  | 19, h => exact absurd h (by decide)
  | 20, h => rfl
  | 21, h => exact absurd h (by decide)
  | 22, h => exact absurd h (by decide)
  | 23, h => rfl
  | 24, h => exact absurd h (by decide)
  | 25, h => exact absurd h (by decide)
  | 26, h => exact absurd h (by decide)
  | 27, h => rfl
  | 28, h => rfl
  | 29, h => rfl
  | 30, h => rfl
  | 31, h => rfl
  | 32, h => rfl
  | 33, h => rfl
  | 34, h => rfl
  | 35, h => rfl
  | 36, h => rfl
  | k + 37, h => exact absurd h (by simp [alenC])
theorem wl_bC (G : zG) (M : Mem) (k : Nat) (h : 0 < blenC k) : (wlC G M)[k]? = some (G.1 k, .inl (G.2.1 2, blenC k, .inl (M.1 k))) := by
  match k, h with
  | 0, h => exact absurd h (by decide)
  | 1, h => exact absurd h (by decide)
  | 2, h => exact absurd h (by decide)
  | 3, h => exact absurd h (by decide)
  | 4, h => exact absurd h (by decide)
  | 5, h => exact absurd h (by decide)
  | 6, h => exact absurd h (by decide)
  | 7, h => exact absurd h (by decide)
  | 8, h => exact absurd h (by decide)
  | 9, h => exact absurd h (by decide)
  | 10, h => exact absurd h (by decide)
  | 11, h => exact absurd h (by decide)
  | 12, h => exact absurd h (by decide)
  | 13, h => exact absurd h (by decide)
  | 14, h => exact absurd h (by decide)
  | 15, h => exact absurd h (by decide)
  | 16, h => exact absurd h (by decide)
  | 17, h => exact absurd h (by decide)
  | 18, h => exact absurd h (by decide)
  | 19, h => exact absurd h (by decide)
  | 20, h => exact absurd h (by decide)
  | 21, h => exact absurd h (by decide)
  | 22, h => exact absurd h (by decide)
  | 23, h => exact absurd h (by decide)
  | 24, h => exact absurd h (by decide)
  | 25, h => rfl
  | 26, h => exact absurd h (by decide)
  | 27, h => exact absurd h (by decide)
  | 28, h => exact absurd h (by decide)
  | 29, h => exact absurd h (by decide)
  | 30, h => exact absurd h (by decide)
  | 31, h => exact absurd h (by decide)
  | 32, h => exact absurd h (by decide)
  | 33, h => exact absurd h (by decide)
  | 34, h => exact absurd h (by decide)
  | 35, h => exact absurd h (by decide)
  | 36, h => exact absurd h (by decide)
  | k + 37, h => exact absurd h (by simp [blenC])
theorem wl_sbC (G : zG) (M : Mem) (k : Nat) (i : Int32) (v : Int32) (h : 0 < blenC k) : (wlC G M).set k (G.1 k, .inl (G.2.1 2, blenC k, .inl (upd (M.1 k) i.toNatClampNeg v))) = wlC G (wI M k i v) := by
  match k, h with
  | 0, h => exact absurd h (by decide)
  | 1, h => exact absurd h (by decide)
  | 2, h => exact absurd h (by decide)
  | 3, h => exact absurd h (by decide)
  | 4, h => exact absurd h (by decide)
  | 5, h => exact absurd h (by decide)
  | 6, h => exact absurd h (by decide)
  | 7, h => exact absurd h (by decide)
  | 8, h => exact absurd h (by decide)
  | 9, h => exact absurd h (by decide)
  | 10, h => exact absurd h (by decide)
  | 11, h => exact absurd h (by decide)
  | 12, h => exact absurd h (by decide)
  | 13, h => exact absurd h (by decide)
  | 14, h => exact absurd h (by decide)
  | 15, h => exact absurd h (by decide)
  | 16, h => exact absurd h (by decide)
  | 17, h => exact absurd h (by decide)
  | 18, h => exact absurd h (by decide)
  | 19, h => exact absurd h (by decide)
  | 20, h => exact absurd h (by decide)
  | 21, h => exact absurd h (by decide)
  | 22, h => exact absurd h (by decide)
  | 23, h => exact absurd h (by decide)
  | 24, h => exact absurd h (by decide)
  | 25, h => rfl
  | 26, h => exact absurd h (by decide)
  | 27, h => exact absurd h (by decide)
  | 28, h => exact absurd h (by decide)
  | 29, h => exact absurd h (by decide)
  | 30, h => exact absurd h (by decide)
  | 31, h => exact absurd h (by decide)
  | 32, h => exact absurd h (by decide)
  | 33, h => exact absurd h (by decide)
  | 34, h => exact absurd h (by decide)
  | 35, h => exact absurd h (by decide)
  | 36, h => exact absurd h (by decide)
  | k + 37, h => exact absurd h (by simp [blenC])
theorem wl_lC (G : zG) (M : Mem) (k : Nat) (h : 0 < llenC k) : (wlC G M)[k]? = some (G.1 k, .inl (G.2.1 1, llenC k, .inr (.inl (M.2 k)))) := by
  match k, h with
  | 0, h => exact absurd h (by decide)
  | 1, h => exact absurd h (by decide)
  | 2, h => exact absurd h (by decide)
  | 3, h => exact absurd h (by decide)
  | 4, h => exact absurd h (by decide)
  | 5, h => exact absurd h (by decide)
  | 6, h => exact absurd h (by decide)
  | 7, h => exact absurd h (by decide)
  | 8, h => exact absurd h (by decide)
  | 9, h => exact absurd h (by decide)
  | 10, h => exact absurd h (by decide)
  | 11, h => exact absurd h (by decide)
  | 12, h => exact absurd h (by decide)
  | 13, h => exact absurd h (by decide)
  | 14, h => exact absurd h (by decide)
  | 15, h => exact absurd h (by decide)
  | 16, h => exact absurd h (by decide)
  | 17, h => exact absurd h (by decide)
  | 18, h => exact absurd h (by decide)
  | 19, h => exact absurd h (by decide)
  | 20, h => exact absurd h (by decide)
  | 21, h => rfl
  | 22, h => exact absurd h (by decide)
  | 23, h => exact absurd h (by decide)
  | 24, h => exact absurd h (by decide)
  | 25, h => exact absurd h (by decide)
  | 26, h => exact absurd h (by decide)
  | 27, h => exact absurd h (by decide)
  | 28, h => exact absurd h (by decide)
  | 29, h => exact absurd h (by decide)
  | 30, h => exact absurd h (by decide)
  | 31, h => exact absurd h (by decide)
  | 32, h => exact absurd h (by decide)
  | 33, h => exact absurd h (by decide)
  | 34, h => exact absurd h (by decide)
  | 35, h => exact absurd h (by decide)
  | 36, h => exact absurd h (by decide)
  | k + 37, h => exact absurd h (by simp [llenC])
theorem wl_slC (G : zG) (M : Mem) (k : Nat) (i : Int32) (v : Int64) (h : 0 < llenC k) : (wlC G M).set k (G.1 k, .inl (G.2.1 1, llenC k, .inr (.inl (vp_updL (M.2 k) i.toNatClampNeg v)))) = wlC G (wL M k i v) := by
  match k, h with
  | 0, h => exact absurd h (by decide)
  | 1, h => exact absurd h (by decide)
  | 2, h => exact absurd h (by decide)
  | 3, h => exact absurd h (by decide)
  | 4, h => exact absurd h (by decide)
  | 5, h => exact absurd h (by decide)
  | 6, h => exact absurd h (by decide)
  | 7, h => exact absurd h (by decide)
  | 8, h => exact absurd h (by decide)
  | 9, h => exact absurd h (by decide)
  | 10, h => exact absurd h (by decide)
  | 11, h => exact absurd h (by decide)
  | 12, h => exact absurd h (by decide)
  | 13, h => exact absurd h (by decide)
  | 14, h => exact absurd h (by decide)
  | 15, h => exact absurd h (by decide)
  | 16, h => exact absurd h (by decide)
  | 17, h => exact absurd h (by decide)
  | 18, h => exact absurd h (by decide)
  | 19, h => exact absurd h (by decide)
  | 20, h => exact absurd h (by decide)
  | 21, h => rfl
  | 22, h => exact absurd h (by decide)
  | 23, h => exact absurd h (by decide)
  | 24, h => exact absurd h (by decide)
  | 25, h => exact absurd h (by decide)
  | 26, h => exact absurd h (by decide)
  | 27, h => exact absurd h (by decide)
  | 28, h => exact absurd h (by decide)
  | 29, h => exact absurd h (by decide)
  | 30, h => exact absurd h (by decide)
  | 31, h => exact absurd h (by decide)
  | 32, h => exact absurd h (by decide)
  | 33, h => exact absurd h (by decide)
  | 34, h => exact absurd h (by decide)
  | 35, h => exact absurd h (by decide)
  | 36, h => exact absurd h (by decide)
  | k + 37, h => exact absurd h (by simp [llenC])
def wlT (G : zG) (M : Mem) : va_W := [(G.1 0, .inr (7, [.int (M.1 0 0), .int (M.1 0 1), .int (M.1 0 2), .ref (G.1 1), .ref (G.1 2), .ref (G.1 3), .ref (G.1 4), .ref (G.1 5), .int (M.1 0 8), .ref (G.1 6), .ref (G.1 7), .ref (G.1 8), .ref (G.1 9), .int (M.1 0 13), .ref (G.1 10), .ref (G.1 11), .ref (G.1 12), .int (M.1 0 17), .ref (G.1 13), .ref (G.1 14), .ref (G.1 15), .ref (G.1 16), .ref (G.1 17), .int (M.1 0 23), .int (M.1 0 24)])),
  (G.1 1, .inl (G.2.1 2, 30, .inl (M.1 1))),
  (G.1 2, .inl (G.2.1 0, 30, .inl (M.1 2))),
  (G.1 3, .inl (G.2.1 0, 30, .inl (M.1 3))),
  (G.1 4, .inl (G.2.1 0, 30, .inl (M.1 4))),
  (G.1 5, .inl (G.2.1 0, 30, .inl (M.1 5))),
  (G.1 6, .inl (G.2.1 0, 4, .inl (M.1 6))),
  (G.1 7, .inl (G.2.1 0, 6, .inl (M.1 7))),
  (G.1 8, .inl (G.2.1 0, 6, .inl (M.1 8))),
  (G.1 9, .inl (G.2.1 2, 6, .inl (M.1 9))),
  (G.1 10, .inl (G.2.1 0, 36, .inl (M.1 10))),
  (G.1 11, .inl (G.2.1 0, 6, .inl (M.1 11))),
  (G.1 12, .inl (G.2.1 1, 64, .inr (.inl (M.2 12)))),
  (G.1 13, .inl (G.2.1 0, 6, .inl (M.1 13))),
  (G.1 14, .inl (G.2.1 0, 6, .inl (M.1 14))),
  (G.1 15, .inl (G.2.1 1, 6, .inr (.inl (M.2 15)))),
  (G.1 16, .inl (G.2.1 0, 6, .inl (M.1 16))),
  (G.1 17, .inl (G.2.1 0, 6, .inl (M.1 17)))]
def alenT (k : Nat) : Nat := match k with
  | 2 => 30
  | 3 => 30
  | 4 => 30
  | 5 => 30
  | 6 => 4
  | 7 => 6
  | 8 => 6
  | 10 => 36
  | 11 => 6
  | 13 => 6
  | 14 => 6
  | 16 => 6
  | 17 => 6
  | _ => 0
def blenT (k : Nat) : Nat := match k with
  | 1 => 30
  | 9 => 6
  | _ => 0
def llenT (k : Nat) : Nat := match k with
  | 12 => 64
  | 15 => 6
  | _ => 0
theorem wlAT (G : zG) (M : Mem) (k : Nat) (q : Nat × va_E) (h : (wlT G M)[k]? = some q) : q.1 = G.1 k ∧ k < 18 := by
  match k, h with
  | 0, h => cases h; exact ⟨rfl, by decide⟩
  | 1, h => cases h; exact ⟨rfl, by decide⟩
  | 2, h => cases h; exact ⟨rfl, by decide⟩
  | 3, h => cases h; exact ⟨rfl, by decide⟩
  | 4, h => cases h; exact ⟨rfl, by decide⟩
  | 5, h => cases h; exact ⟨rfl, by decide⟩
  | 6, h => cases h; exact ⟨rfl, by decide⟩
  | 7, h => cases h; exact ⟨rfl, by decide⟩
  | 8, h => cases h; exact ⟨rfl, by decide⟩
  | 9, h => cases h; exact ⟨rfl, by decide⟩
  | 10, h => cases h; exact ⟨rfl, by decide⟩
  | 11, h => cases h; exact ⟨rfl, by decide⟩
  | 12, h => cases h; exact ⟨rfl, by decide⟩
  | 13, h => cases h; exact ⟨rfl, by decide⟩
  | 14, h => cases h; exact ⟨rfl, by decide⟩
  | 15, h => cases h; exact ⟨rfl, by decide⟩
  | 16, h => cases h; exact ⟨rfl, by decide⟩
  | 17, h => cases h; exact ⟨rfl, by decide⟩
  | k + 18, h => cases h
theorem wl_iT (G : zG) (M : Mem) (k : Nat) (h : 0 < alenT k) : (wlT G M)[k]? = some (G.1 k, .inl (G.2.1 0, alenT k, .inl (M.1 k))) := by
  match k, h with
  | 0, h => exact absurd h (by decide)
  | 1, h => exact absurd h (by decide)
  | 2, h => rfl
  | 3, h => rfl
  | 4, h => rfl
  | 5, h => rfl
  | 6, h => rfl
  | 7, h => rfl
  | 8, h => rfl
  | 9, h => exact absurd h (by decide)
  | 10, h => rfl
  | 11, h => rfl
  | 12, h => exact absurd h (by decide)
  | 13, h => rfl
  | 14, h => rfl
  | 15, h => exact absurd h (by decide)
  | 16, h => rfl
  | 17, h => rfl
  | k + 18, h => exact absurd h (by simp [alenT])
theorem wl_siT (G : zG) (M : Mem) (k : Nat) (i : Int32) (v : Int32) (h : 0 < alenT k) : (wlT G M).set k (G.1 k, .inl (G.2.1 0, alenT k, .inl (upd (M.1 k) i.toNatClampNeg v))) = wlT G (wI M k i v) := by
  match k, h with
  | 0, h => exact absurd h (by decide)
  | 1, h => exact absurd h (by decide)
  | 2, h => rfl
  | 3, h => rfl
  | 4, h => rfl
  | 5, h => rfl
  | 6, h => rfl
  | 7, h => rfl
  | 8, h => rfl
  | 9, h => exact absurd h (by decide)
  | 10, h => rfl
  | 11, h => rfl
  | 12, h => exact absurd h (by decide)
  | 13, h => rfl
  | 14, h => rfl
  | 15, h => exact absurd h (by decide)
  | 16, h => rfl
  | 17, h => rfl
  | k + 18, h => exact absurd h (by simp [alenT])
theorem wl_bT (G : zG) (M : Mem) (k : Nat) (h : 0 < blenT k) : (wlT G M)[k]? = some (G.1 k, .inl (G.2.1 2, blenT k, .inl (M.1 k))) := by
  match k, h with
  | 0, h => exact absurd h (by decide)
  | 1, h => rfl
  | 2, h => exact absurd h (by decide)
  | 3, h => exact absurd h (by decide)
  | 4, h => exact absurd h (by decide)
  | 5, h => exact absurd h (by decide)
  | 6, h => exact absurd h (by decide)
  | 7, h => exact absurd h (by decide)
  | 8, h => exact absurd h (by decide)
  | 9, h => rfl
  | 10, h => exact absurd h (by decide)
  | 11, h => exact absurd h (by decide)
  | 12, h => exact absurd h (by decide)
  | 13, h => exact absurd h (by decide)
  | 14, h => exact absurd h (by decide)
  | 15, h => exact absurd h (by decide)
  | 16, h => exact absurd h (by decide)
  | 17, h => exact absurd h (by decide)
  | k + 18, h => exact absurd h (by simp [blenT])
theorem wl_sbT (G : zG) (M : Mem) (k : Nat) (i : Int32) (v : Int32) (h : 0 < blenT k) : (wlT G M).set k (G.1 k, .inl (G.2.1 2, blenT k, .inl (upd (M.1 k) i.toNatClampNeg v))) = wlT G (wI M k i v) := by
  match k, h with
  | 0, h => exact absurd h (by decide)
  | 1, h => rfl
  | 2, h => exact absurd h (by decide)
  | 3, h => exact absurd h (by decide)
  | 4, h => exact absurd h (by decide)
  | 5, h => exact absurd h (by decide)
  | 6, h => exact absurd h (by decide)
  | 7, h => exact absurd h (by decide)
  | 8, h => exact absurd h (by decide)
  | 9, h => rfl
  | 10, h => exact absurd h (by decide)
  | 11, h => exact absurd h (by decide)
  | 12, h => exact absurd h (by decide)
  | 13, h => exact absurd h (by decide)
  | 14, h => exact absurd h (by decide)
  | 15, h => exact absurd h (by decide)
  | 16, h => exact absurd h (by decide)
  | 17, h => exact absurd h (by decide)
  | k + 18, h => exact absurd h (by simp [blenT])
theorem wl_lT (G : zG) (M : Mem) (k : Nat) (h : 0 < llenT k) : (wlT G M)[k]? = some (G.1 k, .inl (G.2.1 1, llenT k, .inr (.inl (M.2 k)))) := by
  match k, h with
  | 0, h => exact absurd h (by decide)
  | 1, h => exact absurd h (by decide)
  | 2, h => exact absurd h (by decide)
  | 3, h => exact absurd h (by decide)
  | 4, h => exact absurd h (by decide)
  | 5, h => exact absurd h (by decide)
  | 6, h => exact absurd h (by decide)
  | 7, h => exact absurd h (by decide)
  | 8, h => exact absurd h (by decide)
  | 9, h => exact absurd h (by decide)
  | 10, h => exact absurd h (by decide)
  | 11, h => exact absurd h (by decide)
  | 12, h => rfl
  | 13, h => exact absurd h (by decide)
  | 14, h => exact absurd h (by decide)
  | 15, h => rfl
  | 16, h => exact absurd h (by decide)
  | 17, h => exact absurd h (by decide)
  | k + 18, h => exact absurd h (by simp [llenT])
theorem wl_slT (G : zG) (M : Mem) (k : Nat) (i : Int32) (v : Int64) (h : 0 < llenT k) : (wlT G M).set k (G.1 k, .inl (G.2.1 1, llenT k, .inr (.inl (vp_updL (M.2 k) i.toNatClampNeg v)))) = wlT G (wL M k i v) := by
  match k, h with
  | 0, h => exact absurd h (by decide)
  | 1, h => exact absurd h (by decide)
  | 2, h => exact absurd h (by decide)
  | 3, h => exact absurd h (by decide)
  | 4, h => exact absurd h (by decide)
  | 5, h => exact absurd h (by decide)
  | 6, h => exact absurd h (by decide)
  | 7, h => exact absurd h (by decide)
  | 8, h => exact absurd h (by decide)
  | 9, h => exact absurd h (by decide)
  | 10, h => exact absurd h (by decide)
  | 11, h => exact absurd h (by decide)
  | 12, h => rfl
  | 13, h => exact absurd h (by decide)
  | 14, h => exact absurd h (by decide)
  | 15, h => rfl
  | 16, h => exact absurd h (by decide)
  | 17, h => exact absurd h (by decide)
  | k + 18, h => exact absurd h (by simp [llenT])
end
section
/-! the machine's rows over the world wlC: one list of cells, cell k at the address G.1 k -/
def zIC (G : zG) : Prop := ∀ i j : Nat, i < 37 → j < 37 → G.1 i = G.1 j → i = j
def zAC (G : zG) (sz : Nat) : Nat → Prop := fun q => (∃ k : Nat, k < 37 ∧ q = G.1 k) ∨ sz ≤ q
theorem wlDC {G : zG} (hI : zIC G) (M : Mem) (sz : Nat) : va_D (zAC G sz) (wlC G M) := by
  refine ⟨fun i j p q hi hj e => ?_, fun k q hk => ?_⟩
  · obtain ⟨a1, a2⟩ := wlAC G M i p hi
    obtain ⟨b1, b2⟩ := wlAC G M j q hj
    exact hI i j a2 b2 (by rw [← a1, ← b1]; exact e)
  · obtain ⟨a1, a2⟩ := wlAC G M k q hk
    exact Or.inl ⟨k, a2, a1⟩
def ZZC (G : zG) (s : State) (M : Mem) (H : Heap) (locs : List Loc) : Prop := zIC G ∧ zK G s ∧ va_P G.2.2 zcl (wlC G M) H ∧ va_S (zAC G s.heap.size) s.heap H locs
def zQC (G : zG) (sz : Nat) (res : Option Value) (M : Mem) : Array Value → State → Outcome → State → Prop := fun _ st oc t => oc = .returned res ∧ va_P G.2.2 zcl (wlC G M) t.heap ∧ va_F (zAC G sz) st t
def zPC (G : zG) (sz : Nat) (av : List Value) (M : Mem) : Array Value → State → Prop := va_Pc av (fun U => U.heap.size = sz ∧ zIC G ∧ zK G U ∧ va_P G.2.2 zcl (wlC G M) U.heap)
def MetZC (l : Launch) (G : zG) (y : MethodName) (ws : List Cond) (rm : Room) (av : List Value) (M : Mem) (res : Option Value) (M2 : Mem) : Prop :=
  ∀ sz : Nat, Met l y ws rm (zPC G sz av M) (zQC G sz res M2) 0 0 (zAC G sz)
def zFC (p : Program) (R : Room) (s : State) (m : MethodId) (args : Array Value) (below : List Frame) (meth : Method) (c : Code) (Q : State → Prop) (G : zG) (cc : ByteArray) (maxL : Nat) (ret : Option FieldType) (own : String) (rm : Room) (res : Option Value) (M2 : Mem) : Prop :=
  p.tables.exec = Jvm.exec ∧ c.code = cc ∧ c.maxLocals = maxL ∧ meth.sig.returnType = ret ∧ (∀ w ∈ zws, w.before args s = true) ∧ s.vm.findClass own = some m.cls ∧ meth.locks = false ∧ R = rm ∧ Q = MQ below (zQC G s.heap.size res M2) args s 0 0 (zAC G s.heap.size)
theorem z_ofWC {l : Launch} {G : zG} {y : MethodName} {cc : ByteArray} {maxL : Nat} {ret : Option FieldType} {rm : Room} {av : List Value} {M M2 : Mem} {res : Option Value} {lv : List (Nat × Value)} (hy : plainName y.cls = true) (hn : (lg_sl av).length ≤ maxL) (hlv : lv_args 0 av = lv)
    (body : ∀ (p : Program) (e : Env) (R : Room) (s : State) (m : MethodId) (args : Array Value) (below : List Frame) (meth : Method) (c : Code) (Q : State → Prop) (ls : Array Slot), zFC p R s m args below meth c Q G cc maxL ret y.cls rm res M2 → lv_has ls maxL lv → ZZC G s M s.heap [] → W p l e R s m args below meth c s.heap [] 0 0 Q (F0 m 0 ls [])) :
    MetZC l G y (Cond.code y cc maxL ret :: zws) rm av M res M2 := by
  intro sz
  refine Met.ofW (cc := cc) (maxL := maxL) (ret := ret) hy rfl ?_
  intro p e s m args below meth c s₁ B hml hv
  obtain ⟨rfl, hsz, hI, hK, hP⟩ := hv
  subst hsz
  have hts := atoms_spec (ws := Cond.code y cc maxL ret :: zws) B.pre
  have hl := lv_entry av (n := maxL) hn
  rw [lg_entry_eq]
  generalize (lg_sl av ++ List.replicate (maxL - (lg_sl av).length) Slot.unset).toArray = ls at hl ⊢
  exact body p e _ s m av.toArray below meth c _ ls ⟨B.exec, B.bytes, hml, B.returns, fun w hw => hts w (List.mem_cons_of_mem _ hw), findClass_of_methodNamed B.named, B.notSynchronized, rfl, rfl⟩ (by rw [← hlv]; exact hl) ⟨hI, hK, hP, va_S.rf⟩
section ZRC
variable {p : Program} {l : Launch} {e : Env} {R : Room} {s : State} {m : MethodId} {args : Array Value} {below : List Frame} {meth : Method} {c : Code} {H : Heap} {locs : List Loc} {cells slots : Nat} {Q : State → Prop}
variable {cc : ByteArray} {pc : Nat} {ls : Array Slot} {rest : List Value} {G : zG} {M : Mem} {k : Nat} {i : Int32}
theorem z_ialoadC (hx0 : p.tables.exec = Jvm.exec) (hb : c.code = cc) (hZ : ZZC G s M H locs) (hi : inb i (alenC k) = true) (hdg : decode cc pc = .ok (.iaload, 1)) (kk : W p l e R s m args below meth c H locs cells slots Q (F0 m (pc + 1) ls (.int (M.1 k i.toNatClampNeg) :: rest))) : W p l e R s m args below meth c H locs cells slots Q (F0 m pc ls (.int i :: .ref (G.1 k) :: rest)) :=
  va_iald hx0 hb hZ.2.1.1 hZ.2.2.1 k 0 (wl_iC G M k (inb_pos hi)) rfl (inb_in hi) hdg kk
theorem z_iastoreC {v : Int32} (hx0 : p.tables.exec = Jvm.exec) (hb : c.code = cc) (hZ : ZZC G s M H locs) (hi : inb i (alenC k) = true) (hdg : decode cc pc = .ok (.iastore, 1)) (kk : ∀ (H1 : Heap) (locs1 : List Loc), ZZC G s (wI M k i v) H1 locs1 → W p l e R s m args below meth c H1 locs1 cells slots Q (F0 m (pc + 1) ls rest)) : W p l e R s m args below meth c H locs cells slots Q (F0 m pc ls (.int v :: .int i :: .ref (G.1 k) :: rest)) :=
  va_iast hx0 hb hZ.2.1.1 hZ.2.2.1 (wlDC hZ.1 M s.heap.size) hZ.2.2.2 k 0 (wl_iC G M k (inb_pos hi)) rfl (inb_in hi) hdg (fun H1 locs1 hP _ hS => kk H1 locs1 ⟨hZ.1, hZ.2.1, by rw [← wl_siC G M k i v (inb_pos hi)]; exact hP, hS⟩)
theorem z_baloadC (hx0 : p.tables.exec = Jvm.exec) (hb : c.code = cc) (hZ : ZZC G s M H locs) (hi : inb i (blenC k) = true) (hdg : decode cc pc = .ok (.baload, 1)) (kk : W p l e R s m args below meth c H locs cells slots Q (F0 m (pc + 1) ls (.int (M.1 k i.toNatClampNeg) :: rest))) : W p l e R s m args below meth c H locs cells slots Q (F0 m pc ls (.int i :: .ref (G.1 k) :: rest)) :=
  va_zald hx0 hb hZ.2.1.1 hZ.2.2.1 k 2 (wl_bC G M k (inb_pos hi)) rfl (inb_in hi) hdg kk
theorem z_bastoreC {v : Int32} (hx0 : p.tables.exec = Jvm.exec) (hb : c.code = cc) (hZ : ZZC G s M H locs) (hi : inb i (blenC k) = true) (hdg : decode cc pc = .ok (.bastore, 1)) (kk : ∀ (H1 : Heap) (locs1 : List Loc), ZZC G s (wI M k i (vp_nar .boolean v)) H1 locs1 → W p l e R s m args below meth c H1 locs1 cells slots Q (F0 m (pc + 1) ls rest)) : W p l e R s m args below meth c H locs cells slots Q (F0 m pc ls (.int v :: .int i :: .ref (G.1 k) :: rest)) :=
  va_zast hx0 hb hZ.2.1.1 hZ.2.2.1 (wlDC hZ.1 M s.heap.size) hZ.2.2.2 k 2 (wl_bC G M k (inb_pos hi)) rfl (inb_in hi) hdg (fun H1 locs1 hP _ hS => kk H1 locs1 ⟨hZ.1, hZ.2.1, by rw [← wl_sbC G M k i _ (inb_pos hi)]; exact hP, hS⟩)
theorem z_laloadC (hx0 : p.tables.exec = Jvm.exec) (hb : c.code = cc) (hZ : ZZC G s M H locs) (hi : inb i (llenC k) = true) (hdg : decode cc pc = .ok (.laload, 1)) (kk : W p l e R s m args below meth c H locs cells slots Q (F0 m (pc + 1) ls (.long (M.2 k i.toNatClampNeg) :: rest))) : W p l e R s m args below meth c H locs cells slots Q (F0 m pc ls (.int i :: .ref (G.1 k) :: rest)) :=
  va_lald hx0 hb hZ.2.1.1 hZ.2.2.1 k 1 (wl_lC G M k (inb_pos hi)) rfl (inb_in hi) hdg kk
theorem z_lastoreC {v : Int64} (hx0 : p.tables.exec = Jvm.exec) (hb : c.code = cc) (hZ : ZZC G s M H locs) (hi : inb i (llenC k) = true) (hdg : decode cc pc = .ok (.lastore, 1)) (kk : ∀ (H1 : Heap) (locs1 : List Loc), ZZC G s (wL M k i v) H1 locs1 → W p l e R s m args below meth c H1 locs1 cells slots Q (F0 m (pc + 1) ls rest)) : W p l e R s m args below meth c H locs cells slots Q (F0 m pc ls (.long v :: .int i :: .ref (G.1 k) :: rest)) :=
  va_last hx0 hb hZ.2.1.1 hZ.2.2.1 (wlDC hZ.1 M s.heap.size) hZ.2.2.2 k 1 (wl_lC G M k (inb_pos hi)) rfl (inb_in hi) hdg (fun H1 locs1 hP _ hS => kk H1 locs1 ⟨hZ.1, hZ.2.1, by rw [← wl_slC G M k i v (inb_pos hi)]; exact hP, hS⟩)
theorem z_alenC (hx0 : p.tables.exec = Jvm.exec) (hb : c.code = cc) (hZ : ZZC G s M H locs) (hi : 0 < alenC k) (hdg : decode cc pc = .ok (.arraylength, 1)) (kk : W p l e R s m args below meth c H locs cells slots Q (F0 m (pc + 1) ls (.int (nI (alenC k)) :: rest))) : W p l e R s m args below meth c H locs cells slots Q (F0 m pc ls (.ref (G.1 k) :: rest)) :=
  va_alen hx0 hb hZ.2.1.1 hZ.2.2.1 k 0 (wl_iC G M k hi) rfl rfl hdg kk
theorem z_iretC {cc : ByteArray} {M2 : Mem} {v : Int32} (hx0 : p.tables.exec = Jvm.exec) (hb : c.code = cc) (hr : meth.sig.returnType = some .int) (hZ : ZZC G s M2 H locs) (hlocks : meth.locks = false) (hQ : Q = MQ below (zQC G s.heap.size (some (.int v)) M2) args s 0 0 (zAC G s.heap.size)) (hdg : decode cc pc = .ok (.ireturn, 1)) : W p l e R s m args below meth c H locs 0 0 Q (F0 m pc ls [.int v]) := by
  subst hQ
  exact W.iret (v := v) hx0 hb hr (fun t ht _ => ⟨rfl, by rw [ht]; exact hZ.2.2.1, hZ.2.2.2.F ht⟩) hZ.2.2.2.2.2 hdg hlocks
theorem z_zretC {cc : ByteArray} {M2 : Mem} {v : Int32} (hx0 : p.tables.exec = Jvm.exec) (hb : c.code = cc) (hr : meth.sig.returnType = some .boolean) (hZ : ZZC G s M2 H locs) (hlocks : meth.locks = false) (hQ : Q = MQ below (zQC G s.heap.size (some (.int v)) M2) args s 0 0 (zAC G s.heap.size)) (hn : narrow .boolean (.int v) = .int v) (hdg : decode cc pc = .ok (.ireturn, 1)) : W p l e R s m args below meth c H locs 0 0 Q (F0 m pc ls [.int v]) := by
  subst hQ
  exact W.zret (v := v) hx0 hb hr hn (fun t ht _ => ⟨rfl, by rw [ht]; exact hZ.2.2.1, hZ.2.2.2.F ht⟩) hZ.2.2.2.2.2 hdg hlocks
theorem z_lretC {cc : ByteArray} {M2 : Mem} {v : Int64} (hx0 : p.tables.exec = Jvm.exec) (hb : c.code = cc) (hr : meth.sig.returnType = some .long) (hZ : ZZC G s M2 H locs) (hlocks : meth.locks = false) (hQ : Q = MQ below (zQC G s.heap.size (some (.long v)) M2) args s 0 0 (zAC G s.heap.size)) (hdg : decode cc pc = .ok (.lreturn, 1)) : W p l e R s m args below meth c H locs 0 0 Q (F0 m pc ls [.long v]) := by
  subst hQ
  exact W.lret (v := v) hx0 hb hr (fun t ht _ => ⟨rfl, by rw [ht]; exact hZ.2.2.1, hZ.2.2.2.F ht⟩) hZ.2.2.2.2.2 hdg hlocks
theorem z_aretC {cc : ByteArray} {M2 : Mem} {a : Nat} (hx0 : p.tables.exec = Jvm.exec) (hb : c.code = cc) (hr : meth.sig.returnType = some (.array .int)) (hZ : ZZC G s M2 H locs) (hlocks : meth.locks = false) (hQ : Q = MQ below (zQC G s.heap.size (some (.ref a)) M2) args s 0 0 (zAC G s.heap.size)) (hdg : decode cc pc = .ok (.areturn, 1)) : W p l e R s m args below meth c H locs 0 0 Q (F0 m pc ls [.ref a]) := by
  subst hQ
  exact W.aret (v := .ref a) hx0 hb hr (Or.inr ⟨_, rfl⟩) (Or.inr ⟨_, rfl⟩) (fun t ht _ => ⟨rfl, by rw [ht]; exact hZ.2.2.1, hZ.2.2.2.F ht⟩) hZ.2.2.2.2.2 hdg hlocks
theorem z_vretC {cc : ByteArray} {M2 : Mem} (hx0 : p.tables.exec = Jvm.exec) (hb : c.code = cc) (hr : meth.sig.returnType = none) (hZ : ZZC G s M2 H locs) (hlocks : meth.locks = false) (hQ : Q = MQ below (zQC G s.heap.size none M2) args s 0 0 (zAC G s.heap.size)) (hdg : decode cc pc = .ok (.return_, 1)) : W p l e R s m args below meth c H locs 0 0 Q (F0 m pc ls []) := by
  subst hQ
  exact W.vret hx0 hb hr (fun t ht _ => ⟨rfl, by rw [ht]; exact hZ.2.2.1, hZ.2.2.2.F ht⟩) hZ.2.2.2.2.2 hdg hlocks
theorem z_runC {st0 : List Value} {res : Option Value} {M2 : Mem} {a : Array Value} (hr : va_Run p l e R s m args below meth c H locs cells slots 0 0 (F0 m pc ls st0) rest (zQC G H.size res M2 a) (zAC G H.size)) (hZ : ZZC G s M H locs)
    (kk : ∀ (H1 : Heap) (locs1 : List Loc), ZZC G s M2 H1 locs1 → W p l e R s m args below meth c H1 locs1 cells slots Q (F0 m (pc + 3) ls (res.toList ++ rest))) : W p l e R s m args below meth c H locs cells slots Q (F0 m pc ls st0) := by
  intro T hT X
  obtain ⟨v, st₀, t, T', L, h0, X', hL, e1, e2, ⟨hv, hP, hz, hk⟩, st⟩ := hr T hT X
  obtain rfl : v = res := by injection hv
  rw [h0] at hz hk
  obtain ⟨hI, hK0, hP0, hS⟩ := hZ
  have hA : ∀ q, zAC G H.size q → zAC G s.heap.size q := fun q h => h.elim Or.inl (fun h => Or.inr (Nat.le_trans hS.1 h))
  obtain ⟨t2, a1, b1⟩ := kk T'.heap (locs ++ L) ⟨hI, hK0, by rw [e1]; exact hP,
    ⟨Nat.le_trans hS.1 (by rw [e1]; exact hz), fun q h1 h2 => by rw [e1, hk q (Nat.lt_of_lt_of_le h1 hS.1) (fun z => h2 (hA q z))]; exact hS.2.1 q h1 h2, fun q hq => by
      rcases List.mem_append.mp hq with h | h
      · exact hS.2.2 q h
      · exact hA _ (hL q h)⟩⟩ T' rfl X'
  exact ⟨t2, st t2 a1, b1⟩
theorem zP_blindC {sz : Nat} {av : List Value} : FrameBlind (zPC G sz av M) := fun a U g mk q => by
  obtain ⟨q0, q1, qI, qK, qP⟩ := q
  exact ⟨q0, q1, qI, zK_same (u := U) (U := U.calling g mk a) rfl qK, qP⟩
theorem zP_atC {av : List Value} (hZ : ZZC G s M H locs) : ∀ U : State, U.heap = H → s.WarmedH U.vm → zPC G H.size av M av.toArray U := fun U hU hW => ⟨rfl, by rw [hU], hZ.1, zK_warm hW hZ.2.1, by rw [hU]; exact hZ.2.2.1⟩
end ZRC
/-! the machine's rows over the world wlT: one list of cells, cell k at the address G.1 k -/
def zIT (G : zG) : Prop := ∀ i j : Nat, i < 18 → j < 18 → G.1 i = G.1 j → i = j
def zAT (G : zG) (sz : Nat) : Nat → Prop := fun q => (∃ k : Nat, k < 18 ∧ q = G.1 k) ∨ sz ≤ q
theorem wlDT {G : zG} (hI : zIT G) (M : Mem) (sz : Nat) : va_D (zAT G sz) (wlT G M) := by
  refine ⟨fun i j p q hi hj e => ?_, fun k q hk => ?_⟩
  · obtain ⟨a1, a2⟩ := wlAT G M i p hi
    obtain ⟨b1, b2⟩ := wlAT G M j q hj
    exact hI i j a2 b2 (by rw [← a1, ← b1]; exact e)
  · obtain ⟨a1, a2⟩ := wlAT G M k q hk
    exact Or.inl ⟨k, a2, a1⟩
def ZZT (G : zG) (s : State) (M : Mem) (H : Heap) (locs : List Loc) : Prop := zIT G ∧ zK G s ∧ va_P G.2.2 zcl (wlT G M) H ∧ va_S (zAT G s.heap.size) s.heap H locs
def zQT (G : zG) (sz : Nat) (res : Option Value) (M : Mem) : Array Value → State → Outcome → State → Prop := fun _ st oc t => oc = .returned res ∧ va_P G.2.2 zcl (wlT G M) t.heap ∧ va_F (zAT G sz) st t
def zPT (G : zG) (sz : Nat) (av : List Value) (M : Mem) : Array Value → State → Prop := va_Pc av (fun U => U.heap.size = sz ∧ zIT G ∧ zK G U ∧ va_P G.2.2 zcl (wlT G M) U.heap)
def MetZT (l : Launch) (G : zG) (y : MethodName) (ws : List Cond) (rm : Room) (av : List Value) (M : Mem) (res : Option Value) (M2 : Mem) : Prop :=
  ∀ sz : Nat, Met l y ws rm (zPT G sz av M) (zQT G sz res M2) 0 0 (zAT G sz)
def zFT (p : Program) (R : Room) (s : State) (m : MethodId) (args : Array Value) (below : List Frame) (meth : Method) (c : Code) (Q : State → Prop) (G : zG) (cc : ByteArray) (maxL : Nat) (ret : Option FieldType) (own : String) (rm : Room) (res : Option Value) (M2 : Mem) : Prop :=
  p.tables.exec = Jvm.exec ∧ c.code = cc ∧ c.maxLocals = maxL ∧ meth.sig.returnType = ret ∧ (∀ w ∈ zws, w.before args s = true) ∧ s.vm.findClass own = some m.cls ∧ meth.locks = false ∧ R = rm ∧ Q = MQ below (zQT G s.heap.size res M2) args s 0 0 (zAT G s.heap.size)
theorem z_ofWT {l : Launch} {G : zG} {y : MethodName} {cc : ByteArray} {maxL : Nat} {ret : Option FieldType} {rm : Room} {av : List Value} {M M2 : Mem} {res : Option Value} {lv : List (Nat × Value)} (hy : plainName y.cls = true) (hn : (lg_sl av).length ≤ maxL) (hlv : lv_args 0 av = lv)
    (body : ∀ (p : Program) (e : Env) (R : Room) (s : State) (m : MethodId) (args : Array Value) (below : List Frame) (meth : Method) (c : Code) (Q : State → Prop) (ls : Array Slot), zFT p R s m args below meth c Q G cc maxL ret y.cls rm res M2 → lv_has ls maxL lv → ZZT G s M s.heap [] → W p l e R s m args below meth c s.heap [] 0 0 Q (F0 m 0 ls [])) :
    MetZT l G y (Cond.code y cc maxL ret :: zws) rm av M res M2 := by
  intro sz
  refine Met.ofW (cc := cc) (maxL := maxL) (ret := ret) hy rfl ?_
  intro p e s m args below meth c s₁ B hml hv
  obtain ⟨rfl, hsz, hI, hK, hP⟩ := hv
  subst hsz
  have hts := atoms_spec (ws := Cond.code y cc maxL ret :: zws) B.pre
  have hl := lv_entry av (n := maxL) hn
  rw [lg_entry_eq]
  generalize (lg_sl av ++ List.replicate (maxL - (lg_sl av).length) Slot.unset).toArray = ls at hl ⊢
  exact body p e _ s m av.toArray below meth c _ ls ⟨B.exec, B.bytes, hml, B.returns, fun w hw => hts w (List.mem_cons_of_mem _ hw), findClass_of_methodNamed B.named, B.notSynchronized, rfl, rfl⟩ (by rw [← hlv]; exact hl) ⟨hI, hK, hP, va_S.rf⟩
section ZRT
variable {p : Program} {l : Launch} {e : Env} {R : Room} {s : State} {m : MethodId} {args : Array Value} {below : List Frame} {meth : Method} {c : Code} {H : Heap} {locs : List Loc} {cells slots : Nat} {Q : State → Prop}
variable {cc : ByteArray} {pc : Nat} {ls : Array Slot} {rest : List Value} {G : zG} {M : Mem} {k : Nat} {i : Int32}
theorem z_ialoadT (hx0 : p.tables.exec = Jvm.exec) (hb : c.code = cc) (hZ : ZZT G s M H locs) (hi : inb i (alenT k) = true) (hdg : decode cc pc = .ok (.iaload, 1)) (kk : W p l e R s m args below meth c H locs cells slots Q (F0 m (pc + 1) ls (.int (M.1 k i.toNatClampNeg) :: rest))) : W p l e R s m args below meth c H locs cells slots Q (F0 m pc ls (.int i :: .ref (G.1 k) :: rest)) :=
  va_iald hx0 hb hZ.2.1.1 hZ.2.2.1 k 0 (wl_iT G M k (inb_pos hi)) rfl (inb_in hi) hdg kk
theorem z_iastoreT {v : Int32} (hx0 : p.tables.exec = Jvm.exec) (hb : c.code = cc) (hZ : ZZT G s M H locs) (hi : inb i (alenT k) = true) (hdg : decode cc pc = .ok (.iastore, 1)) (kk : ∀ (H1 : Heap) (locs1 : List Loc), ZZT G s (wI M k i v) H1 locs1 → W p l e R s m args below meth c H1 locs1 cells slots Q (F0 m (pc + 1) ls rest)) : W p l e R s m args below meth c H locs cells slots Q (F0 m pc ls (.int v :: .int i :: .ref (G.1 k) :: rest)) :=
  va_iast hx0 hb hZ.2.1.1 hZ.2.2.1 (wlDT hZ.1 M s.heap.size) hZ.2.2.2 k 0 (wl_iT G M k (inb_pos hi)) rfl (inb_in hi) hdg (fun H1 locs1 hP _ hS => kk H1 locs1 ⟨hZ.1, hZ.2.1, by rw [← wl_siT G M k i v (inb_pos hi)]; exact hP, hS⟩)
theorem z_baloadT (hx0 : p.tables.exec = Jvm.exec) (hb : c.code = cc) (hZ : ZZT G s M H locs) (hi : inb i (blenT k) = true) (hdg : decode cc pc = .ok (.baload, 1)) (kk : W p l e R s m args below meth c H locs cells slots Q (F0 m (pc + 1) ls (.int (M.1 k i.toNatClampNeg) :: rest))) : W p l e R s m args below meth c H locs cells slots Q (F0 m pc ls (.int i :: .ref (G.1 k) :: rest)) :=
  va_zald hx0 hb hZ.2.1.1 hZ.2.2.1 k 2 (wl_bT G M k (inb_pos hi)) rfl (inb_in hi) hdg kk
theorem z_bastoreT {v : Int32} (hx0 : p.tables.exec = Jvm.exec) (hb : c.code = cc) (hZ : ZZT G s M H locs) (hi : inb i (blenT k) = true) (hdg : decode cc pc = .ok (.bastore, 1)) (kk : ∀ (H1 : Heap) (locs1 : List Loc), ZZT G s (wI M k i (vp_nar .boolean v)) H1 locs1 → W p l e R s m args below meth c H1 locs1 cells slots Q (F0 m (pc + 1) ls rest)) : W p l e R s m args below meth c H locs cells slots Q (F0 m pc ls (.int v :: .int i :: .ref (G.1 k) :: rest)) :=
  va_zast hx0 hb hZ.2.1.1 hZ.2.2.1 (wlDT hZ.1 M s.heap.size) hZ.2.2.2 k 2 (wl_bT G M k (inb_pos hi)) rfl (inb_in hi) hdg (fun H1 locs1 hP _ hS => kk H1 locs1 ⟨hZ.1, hZ.2.1, by rw [← wl_sbT G M k i _ (inb_pos hi)]; exact hP, hS⟩)
theorem z_laloadT (hx0 : p.tables.exec = Jvm.exec) (hb : c.code = cc) (hZ : ZZT G s M H locs) (hi : inb i (llenT k) = true) (hdg : decode cc pc = .ok (.laload, 1)) (kk : W p l e R s m args below meth c H locs cells slots Q (F0 m (pc + 1) ls (.long (M.2 k i.toNatClampNeg) :: rest))) : W p l e R s m args below meth c H locs cells slots Q (F0 m pc ls (.int i :: .ref (G.1 k) :: rest)) :=
  va_lald hx0 hb hZ.2.1.1 hZ.2.2.1 k 1 (wl_lT G M k (inb_pos hi)) rfl (inb_in hi) hdg kk
theorem z_lastoreT {v : Int64} (hx0 : p.tables.exec = Jvm.exec) (hb : c.code = cc) (hZ : ZZT G s M H locs) (hi : inb i (llenT k) = true) (hdg : decode cc pc = .ok (.lastore, 1)) (kk : ∀ (H1 : Heap) (locs1 : List Loc), ZZT G s (wL M k i v) H1 locs1 → W p l e R s m args below meth c H1 locs1 cells slots Q (F0 m (pc + 1) ls rest)) : W p l e R s m args below meth c H locs cells slots Q (F0 m pc ls (.long v :: .int i :: .ref (G.1 k) :: rest)) :=
  va_last hx0 hb hZ.2.1.1 hZ.2.2.1 (wlDT hZ.1 M s.heap.size) hZ.2.2.2 k 1 (wl_lT G M k (inb_pos hi)) rfl (inb_in hi) hdg (fun H1 locs1 hP _ hS => kk H1 locs1 ⟨hZ.1, hZ.2.1, by rw [← wl_slT G M k i v (inb_pos hi)]; exact hP, hS⟩)
theorem z_alenT (hx0 : p.tables.exec = Jvm.exec) (hb : c.code = cc) (hZ : ZZT G s M H locs) (hi : 0 < alenT k) (hdg : decode cc pc = .ok (.arraylength, 1)) (kk : W p l e R s m args below meth c H locs cells slots Q (F0 m (pc + 1) ls (.int (nI (alenT k)) :: rest))) : W p l e R s m args below meth c H locs cells slots Q (F0 m pc ls (.ref (G.1 k) :: rest)) :=
  va_alen hx0 hb hZ.2.1.1 hZ.2.2.1 k 0 (wl_iT G M k hi) rfl rfl hdg kk
theorem z_iretT {cc : ByteArray} {M2 : Mem} {v : Int32} (hx0 : p.tables.exec = Jvm.exec) (hb : c.code = cc) (hr : meth.sig.returnType = some .int) (hZ : ZZT G s M2 H locs) (hlocks : meth.locks = false) (hQ : Q = MQ below (zQT G s.heap.size (some (.int v)) M2) args s 0 0 (zAT G s.heap.size)) (hdg : decode cc pc = .ok (.ireturn, 1)) : W p l e R s m args below meth c H locs 0 0 Q (F0 m pc ls [.int v]) := by
  subst hQ
  exact W.iret (v := v) hx0 hb hr (fun t ht _ => ⟨rfl, by rw [ht]; exact hZ.2.2.1, hZ.2.2.2.F ht⟩) hZ.2.2.2.2.2 hdg hlocks
theorem z_zretT {cc : ByteArray} {M2 : Mem} {v : Int32} (hx0 : p.tables.exec = Jvm.exec) (hb : c.code = cc) (hr : meth.sig.returnType = some .boolean) (hZ : ZZT G s M2 H locs) (hlocks : meth.locks = false) (hQ : Q = MQ below (zQT G s.heap.size (some (.int v)) M2) args s 0 0 (zAT G s.heap.size)) (hn : narrow .boolean (.int v) = .int v) (hdg : decode cc pc = .ok (.ireturn, 1)) : W p l e R s m args below meth c H locs 0 0 Q (F0 m pc ls [.int v]) := by
  subst hQ
  exact W.zret (v := v) hx0 hb hr hn (fun t ht _ => ⟨rfl, by rw [ht]; exact hZ.2.2.1, hZ.2.2.2.F ht⟩) hZ.2.2.2.2.2 hdg hlocks
theorem z_lretT {cc : ByteArray} {M2 : Mem} {v : Int64} (hx0 : p.tables.exec = Jvm.exec) (hb : c.code = cc) (hr : meth.sig.returnType = some .long) (hZ : ZZT G s M2 H locs) (hlocks : meth.locks = false) (hQ : Q = MQ below (zQT G s.heap.size (some (.long v)) M2) args s 0 0 (zAT G s.heap.size)) (hdg : decode cc pc = .ok (.lreturn, 1)) : W p l e R s m args below meth c H locs 0 0 Q (F0 m pc ls [.long v]) := by
  subst hQ
  exact W.lret (v := v) hx0 hb hr (fun t ht _ => ⟨rfl, by rw [ht]; exact hZ.2.2.1, hZ.2.2.2.F ht⟩) hZ.2.2.2.2.2 hdg hlocks
theorem z_aretT {cc : ByteArray} {M2 : Mem} {a : Nat} (hx0 : p.tables.exec = Jvm.exec) (hb : c.code = cc) (hr : meth.sig.returnType = some (.array .int)) (hZ : ZZT G s M2 H locs) (hlocks : meth.locks = false) (hQ : Q = MQ below (zQT G s.heap.size (some (.ref a)) M2) args s 0 0 (zAT G s.heap.size)) (hdg : decode cc pc = .ok (.areturn, 1)) : W p l e R s m args below meth c H locs 0 0 Q (F0 m pc ls [.ref a]) := by
  subst hQ
  exact W.aret (v := .ref a) hx0 hb hr (Or.inr ⟨_, rfl⟩) (Or.inr ⟨_, rfl⟩) (fun t ht _ => ⟨rfl, by rw [ht]; exact hZ.2.2.1, hZ.2.2.2.F ht⟩) hZ.2.2.2.2.2 hdg hlocks
theorem z_vretT {cc : ByteArray} {M2 : Mem} (hx0 : p.tables.exec = Jvm.exec) (hb : c.code = cc) (hr : meth.sig.returnType = none) (hZ : ZZT G s M2 H locs) (hlocks : meth.locks = false) (hQ : Q = MQ below (zQT G s.heap.size none M2) args s 0 0 (zAT G s.heap.size)) (hdg : decode cc pc = .ok (.return_, 1)) : W p l e R s m args below meth c H locs 0 0 Q (F0 m pc ls []) := by
  subst hQ
  exact W.vret hx0 hb hr (fun t ht _ => ⟨rfl, by rw [ht]; exact hZ.2.2.1, hZ.2.2.2.F ht⟩) hZ.2.2.2.2.2 hdg hlocks
theorem z_runT {st0 : List Value} {res : Option Value} {M2 : Mem} {a : Array Value} (hr : va_Run p l e R s m args below meth c H locs cells slots 0 0 (F0 m pc ls st0) rest (zQT G H.size res M2 a) (zAT G H.size)) (hZ : ZZT G s M H locs)
    (kk : ∀ (H1 : Heap) (locs1 : List Loc), ZZT G s M2 H1 locs1 → W p l e R s m args below meth c H1 locs1 cells slots Q (F0 m (pc + 3) ls (res.toList ++ rest))) : W p l e R s m args below meth c H locs cells slots Q (F0 m pc ls st0) := by
  intro T hT X
  obtain ⟨v, st₀, t, T', L, h0, X', hL, e1, e2, ⟨hv, hP, hz, hk⟩, st⟩ := hr T hT X
  obtain rfl : v = res := by injection hv
  rw [h0] at hz hk
  obtain ⟨hI, hK0, hP0, hS⟩ := hZ
  have hA : ∀ q, zAT G H.size q → zAT G s.heap.size q := fun q h => h.elim Or.inl (fun h => Or.inr (Nat.le_trans hS.1 h))
  obtain ⟨t2, a1, b1⟩ := kk T'.heap (locs ++ L) ⟨hI, hK0, by rw [e1]; exact hP,
    ⟨Nat.le_trans hS.1 (by rw [e1]; exact hz), fun q h1 h2 => by rw [e1, hk q (Nat.lt_of_lt_of_le h1 hS.1) (fun z => h2 (hA q z))]; exact hS.2.1 q h1 h2, fun q hq => by
      rcases List.mem_append.mp hq with h | h
      · exact hS.2.2 q h
      · exact hA _ (hL q h)⟩⟩ T' rfl X'
  exact ⟨t2, st t2 a1, b1⟩
theorem zP_blindT {sz : Nat} {av : List Value} : FrameBlind (zPT G sz av M) := fun a U g mk q => by
  obtain ⟨q0, q1, qI, qK, qP⟩ := q
  exact ⟨q0, q1, qI, zK_same (u := U) (U := U.calling g mk a) rfl qK, qP⟩
theorem zP_atT {av : List Value} (hZ : ZZT G s M H locs) : ∀ U : State, U.heap = H → s.WarmedH U.vm → zPT G H.size av M av.toArray U := fun U hU hW => ⟨rfl, by rw [hU], hZ.1, zK_warm hW hZ.2.1, by rw [hU]; exact hZ.2.2.1⟩
end ZRT
end
section
/-! calls: the words that a call rests on -/
section ZCG
variable {R : Room} {s : State} {args : Array Value} {own C host : String} {index n : Nat} {y : MethodName} {bytes : ByteArray} {maxL : Nat} {ret : Option FieldType} {rm : Room}
theorem zcB (ht : ∀ w ∈ zws, w.before args s = true) (h1 : Cond.code y bytes maxL ret ∈ zws) (h2 : Cond.initialized y.cls ∈ zws) (h3 : Cond.methodLink own index y ∈ zws) (hd : y.cls ≠ "java/lang/invoke/MethodHandle" ∧ y.cls ≠ "java/lang/invoke/VarHandle" ∧ (parseMethodDescriptor y.desc).map (fun d => d.parameters.length) = some n) (hrc : rm.cells = 0) (hrs : rm.slots = 0) (hR : rm.frames + 1 ≤ R.frames ∧ 8 + (maxL + 11) + rm.locals ≤ R.locals) : CallB R s args own index y bytes maxL ret (Cond.code y bytes maxL ret :: zws) rm 0 0 n :=
  callB_of n ht (zgo h1) rfl hrc hrs (ht _ h2) (ht _ h3) hd hR
theorem zcN (ht : ∀ w ∈ zws, w.before args s = true) (h1 : Cond.code y bytes maxL ret ∈ zws) (h2 : Cond.initialized y.cls ∈ zws) (h3 : va_Nw (.methodLinkNest own index y host) s) (hd : y.cls ≠ "java/lang/invoke/MethodHandle" ∧ y.cls ≠ "java/lang/invoke/VarHandle" ∧ (parseMethodDescriptor y.desc).map (fun d => d.parameters.length) = some n) (hrc : rm.cells = 0) (hrs : rm.slots = 0) (hR : rm.frames + 1 ≤ R.frames ∧ 8 + (maxL + 11) + rm.locals ≤ R.locals) : va_CN R s args own index y host bytes maxL ret (Cond.code y bytes maxL ret :: zws) rm 0 0 n :=
  va_cnB n ht (zgo h1) rfl hrc hrs h3 (ht _ h2) hd hR
end ZCG
section ZFC
variable {p : Program} {l : Launch} {e : Env} {R : Room} {s : State} {m : MethodId} {args : Array Value} {below : List Frame} {meth : Method} {c : Code} {H : Heap} {locs : List Loc} {cells slots : Nat} {Q : State → Prop}
variable {cc : ByteArray} {pc nL : Nat} {ls : Array Slot} {rest : List Value} {G : zG} {M : Mem}
theorem fg_Ln_columnOf (hx0 : p.tables.exec = Jvm.exec) (hb : c.code = cc) (hts : ∀ w ∈ zws, w.before args s = true) (hown : s.vm.findClass R_Ln = some m.cls) (hZ : ZZC G s M H locs) (hdg : decode cc pc = .ok (.getfield 9, 3)) (kk : W p l e R s m args below meth c H locs cells slots Q (F0 m (pc + 3) ls (.ref (G.1 2) :: rest))) : W p l e R s m args below meth c H locs cells slots Q (F0 m pc ls (.ref (G.1 1) :: rest)) :=
  va_get (D := G.2.2) (ci := 0) (v := .ref (G.1 2)) (C := R_Ln) (T := F_Ln) (N := 9) hx0 hb hts in_Ln hown hZ.2.1.1 hZ.2.2.1 1 rfl rfl 0 (by decide) (hts _ wf_Ln_9) (fun _ h9 => h9) rfl hdg kk
theorem fg_Ln_numberOf (hx0 : p.tables.exec = Jvm.exec) (hb : c.code = cc) (hts : ∀ w ∈ zws, w.before args s = true) (hown : s.vm.findClass R_Ln = some m.cls) (hZ : ZZC G s M H locs) (hdg : decode cc pc = .ok (.getfield 15, 3)) (kk : W p l e R s m args below meth c H locs cells slots Q (F0 m (pc + 3) ls (.ref (G.1 3) :: rest))) : W p l e R s m args below meth c H locs cells slots Q (F0 m pc ls (.ref (G.1 1) :: rest)) :=
  va_get (D := G.2.2) (ci := 0) (v := .ref (G.1 3)) (C := R_Ln) (T := F_Ln) (N := 9) hx0 hb hts in_Ln hown hZ.2.1.1 hZ.2.2.1 1 rfl rfl 1 (by decide) (hts _ wf_Ln_15) (fun _ h9 => h9) rfl hdg kk
theorem fg_Ln_lowOf (hx0 : p.tables.exec = Jvm.exec) (hb : c.code = cc) (hts : ∀ w ∈ zws, w.before args s = true) (hown : s.vm.findClass R_Ln = some m.cls) (hZ : ZZC G s M H locs) (hdg : decode cc pc = .ok (.getfield 18, 3)) (kk : W p l e R s m args below meth c H locs cells slots Q (F0 m (pc + 3) ls (.ref (G.1 4) :: rest))) : W p l e R s m args below meth c H locs cells slots Q (F0 m pc ls (.ref (G.1 1) :: rest)) :=
  va_get (D := G.2.2) (ci := 0) (v := .ref (G.1 4)) (C := R_Ln) (T := F_Ln) (N := 9) hx0 hb hts in_Ln hown hZ.2.1.1 hZ.2.2.1 1 rfl rfl 2 (by decide) (hts _ wf_Ln_18) (fun _ h9 => h9) rfl hdg kk
theorem fg_Ln_highOf (hx0 : p.tables.exec = Jvm.exec) (hb : c.code = cc) (hts : ∀ w ∈ zws, w.before args s = true) (hown : s.vm.findClass R_Ln = some m.cls) (hZ : ZZC G s M H locs) (hdg : decode cc pc = .ok (.getfield 21, 3)) (kk : W p l e R s m args below meth c H locs cells slots Q (F0 m (pc + 3) ls (.ref (G.1 5) :: rest))) : W p l e R s m args below meth c H locs cells slots Q (F0 m pc ls (.ref (G.1 1) :: rest)) :=
  va_get (D := G.2.2) (ci := 0) (v := .ref (G.1 5)) (C := R_Ln) (T := F_Ln) (N := 9) hx0 hb hts in_Ln hown hZ.2.1.1 hZ.2.2.1 1 rfl rfl 3 (by decide) (hts _ wf_Ln_21) (fun _ h9 => h9) rfl hdg kk
theorem fg_Ln_peaks (hx0 : p.tables.exec = Jvm.exec) (hb : c.code = cc) (hts : ∀ w ∈ zws, w.before args s = true) (hown : s.vm.findClass R_Ln = some m.cls) (hZ : ZZC G s M H locs) (hdg : decode cc pc = .ok (.getfield 24, 3)) (kk : W p l e R s m args below meth c H locs cells slots Q (F0 m (pc + 3) ls (.ref (G.1 6) :: rest))) : W p l e R s m args below meth c H locs cells slots Q (F0 m pc ls (.ref (G.1 1) :: rest)) :=
  va_get (D := G.2.2) (ci := 0) (v := .ref (G.1 6)) (C := R_Ln) (T := F_Ln) (N := 9) hx0 hb hts in_Ln hown hZ.2.1.1 hZ.2.2.1 1 rfl rfl 4 (by decide) (hts _ wf_Ln_24) (fun _ h9 => h9) rfl hdg kk
theorem fg_Ln_roots (hx0 : p.tables.exec = Jvm.exec) (hb : c.code = cc) (hts : ∀ w ∈ zws, w.before args s = true) (hown : s.vm.findClass R_Ln = some m.cls) (hZ : ZZC G s M H locs) (hdg : decode cc pc = .ok (.getfield 27, 3)) (kk : W p l e R s m args below meth c H locs cells slots Q (F0 m (pc + 3) ls (.ref (G.1 7) :: rest))) : W p l e R s m args below meth c H locs cells slots Q (F0 m pc ls (.ref (G.1 1) :: rest)) :=
  va_get (D := G.2.2) (ci := 0) (v := .ref (G.1 7)) (C := R_Ln) (T := F_Ln) (N := 9) hx0 hb hts in_Ln hown hZ.2.1.1 hZ.2.2.1 1 rfl rfl 5 (by decide) (hts _ wf_Ln_27) (fun _ h9 => h9) rfl hdg kk
theorem fg_Ln_weights (hx0 : p.tables.exec = Jvm.exec) (hb : c.code = cc) (hts : ∀ w ∈ zws, w.before args s = true) (hown : s.vm.findClass R_Ln = some m.cls) (hZ : ZZC G s M H locs) (hdg : decode cc pc = .ok (.getfield 30, 3)) (kk : W p l e R s m args below meth c H locs cells slots Q (F0 m (pc + 3) ls (.ref (G.1 8) :: rest))) : W p l e R s m args below meth c H locs cells slots Q (F0 m pc ls (.ref (G.1 1) :: rest)) :=
  va_get (D := G.2.2) (ci := 0) (v := .ref (G.1 8)) (C := R_Ln) (T := F_Ln) (N := 9) hx0 hb hts in_Ln hown hZ.2.1.1 hZ.2.2.1 1 rfl rfl 6 (by decide) (hts _ wf_Ln_30) (fun _ h9 => h9) rfl hdg kk
theorem fg_Ln_nodeCount (hx0 : p.tables.exec = Jvm.exec) (hb : c.code = cc) (hts : ∀ w ∈ zws, w.before args s = true) (hown : s.vm.findClass R_Ln = some m.cls) (hZ : ZZC G s M H locs) (hdg : decode cc pc = .ok (.getfield 33, 3)) (kk : W p l e R s m args below meth c H locs cells slots Q (F0 m (pc + 3) ls (.int (M.1 1 7) :: rest))) : W p l e R s m args below meth c H locs cells slots Q (F0 m pc ls (.ref (G.1 1) :: rest)) :=
  va_get (D := G.2.2) (ci := 0) (v := .int (M.1 1 7)) (C := R_Ln) (T := F_Ln) (N := 9) hx0 hb hts in_Ln hown hZ.2.1.1 hZ.2.2.1 1 rfl rfl 7 (by decide) (hts _ wf_Ln_33) (fun _ h9 => h9) rfl hdg kk
theorem fp_Ln_nodeCount {v : Int32} (hx0 : p.tables.exec = Jvm.exec) (hb : c.code = cc) (hts : ∀ w ∈ zws, w.before args s = true) (hown : s.vm.findClass R_Ln = some m.cls) (hZ : ZZC G s M H locs) (hdg : decode cc pc = .ok (.putfield 33, 3)) (kk : ∀ (H1 : Heap) (locs1 : List Loc), ZZC G s (wF M 1 7 v) H1 locs1 → W p l e R s m args below meth c H1 locs1 cells slots Q (F0 m (pc + 3) ls rest)) : W p l e R s m args below meth c H locs cells slots Q (F0 m pc ls (.int v :: .ref (G.1 1) :: rest)) :=
  va_put (D := G.2.2) (ci := 0) (v := .int v) (ty := .int) (C := R_Ln) (T := F_Ln) (N := 9) hx0 hb hts in_Ln t_Ln t_Ln_ok n_Ln hown hZ.2.1.1 hZ.2.2.1 (wlDC hZ.1 M s.heap.size) hZ.2.2.2 1 rfl rfl 7 (by decide) (hts _ wf_Ln_33) (fun _ h9 => h9) rfl (by decide +kernel) rfl rfl (Nat.le_of_ble_eq_true rfl) hdg (fun H1 locs1 hP _ hS => kk H1 locs1 ⟨hZ.1, hZ.2.1, hP, hS⟩)
theorem fg_Ln_rootCount (hx0 : p.tables.exec = Jvm.exec) (hb : c.code = cc) (hts : ∀ w ∈ zws, w.before args s = true) (hown : s.vm.findClass R_Ln = some m.cls) (hZ : ZZC G s M H locs) (hdg : decode cc pc = .ok (.getfield 37, 3)) (kk : W p l e R s m args below meth c H locs cells slots Q (F0 m (pc + 3) ls (.int (M.1 1 8) :: rest))) : W p l e R s m args below meth c H locs cells slots Q (F0 m pc ls (.ref (G.1 1) :: rest)) :=
  va_get (D := G.2.2) (ci := 0) (v := .int (M.1 1 8)) (C := R_Ln) (T := F_Ln) (N := 9) hx0 hb hts in_Ln hown hZ.2.1.1 hZ.2.2.1 1 rfl rfl 8 (by decide) (hts _ wf_Ln_37) (fun _ h9 => h9) rfl hdg kk
theorem fp_Ln_rootCount {v : Int32} (hx0 : p.tables.exec = Jvm.exec) (hb : c.code = cc) (hts : ∀ w ∈ zws, w.before args s = true) (hown : s.vm.findClass R_Ln = some m.cls) (hZ : ZZC G s M H locs) (hdg : decode cc pc = .ok (.putfield 37, 3)) (kk : ∀ (H1 : Heap) (locs1 : List Loc), ZZC G s (wF M 1 8 v) H1 locs1 → W p l e R s m args below meth c H1 locs1 cells slots Q (F0 m (pc + 3) ls rest)) : W p l e R s m args below meth c H locs cells slots Q (F0 m pc ls (.int v :: .ref (G.1 1) :: rest)) :=
  va_put (D := G.2.2) (ci := 0) (v := .int v) (ty := .int) (C := R_Ln) (T := F_Ln) (N := 9) hx0 hb hts in_Ln t_Ln t_Ln_ok n_Ln hown hZ.2.1.1 hZ.2.2.1 (wlDC hZ.1 M s.heap.size) hZ.2.2.2 1 rfl rfl 8 (by decide) (hts _ wf_Ln_37) (fun _ h9 => h9) rfl (by decide +kernel) rfl rfl (Nat.le_of_ble_eq_true rfl) hdg (fun H1 locs1 hP _ hS => kk H1 locs1 ⟨hZ.1, hZ.2.1, hP, hS⟩)
theorem fg_Rw_looked (hx0 : p.tables.exec = Jvm.exec) (hb : c.code = cc) (hts : ∀ w ∈ zws, w.before args s = true) (hown : s.vm.findClass R_Rw = some m.cls) (hZ : ZZC G s M H locs) (hdg : decode cc pc = .ok (.getfield 9, 3)) (kk : W p l e R s m args below meth c H locs cells slots Q (F0 m (pc + 3) ls (.ref (G.1 10) :: rest))) : W p l e R s m args below meth c H locs cells slots Q (F0 m pc ls (.ref (G.1 9) :: rest)) :=
  va_get (D := G.2.2) (ci := 1) (v := .ref (G.1 10)) (C := R_Rw) (T := F_Rw) (N := 3) hx0 hb hts in_Rw hown hZ.2.1.1 hZ.2.2.1 9 rfl rfl 0 (by decide) (hts _ wf_Rw_9) (fun _ h9 => h9) rfl hdg kk
theorem fg_Rw_behind (hx0 : p.tables.exec = Jvm.exec) (hb : c.code = cc) (hts : ∀ w ∈ zws, w.before args s = true) (hown : s.vm.findClass R_Rw = some m.cls) (hZ : ZZC G s M H locs) (hdg : decode cc pc = .ok (.getfield 17, 3)) (kk : W p l e R s m args below meth c H locs cells slots Q (F0 m (pc + 3) ls (.ref (G.1 11) :: rest))) : W p l e R s m args below meth c H locs cells slots Q (F0 m pc ls (.ref (G.1 9) :: rest)) :=
  va_get (D := G.2.2) (ci := 1) (v := .ref (G.1 11)) (C := R_Rw) (T := F_Rw) (N := 3) hx0 hb hts in_Rw hown hZ.2.1.1 hZ.2.2.1 9 rfl rfl 1 (by decide) (hts _ wf_Rw_17) (fun _ h9 => h9) rfl hdg kk
theorem fg_Rw_count (hx0 : p.tables.exec = Jvm.exec) (hb : c.code = cc) (hts : ∀ w ∈ zws, w.before args s = true) (hown : s.vm.findClass R_Rw = some m.cls) (hZ : ZZC G s M H locs) (hdg : decode cc pc = .ok (.getfield 20, 3)) (kk : W p l e R s m args below meth c H locs cells slots Q (F0 m (pc + 3) ls (.int (M.1 9 2) :: rest))) : W p l e R s m args below meth c H locs cells slots Q (F0 m pc ls (.ref (G.1 9) :: rest)) :=
  va_get (D := G.2.2) (ci := 1) (v := .int (M.1 9 2)) (C := R_Rw) (T := F_Rw) (N := 3) hx0 hb hts in_Rw hown hZ.2.1.1 hZ.2.2.1 9 rfl rfl 2 (by decide) (hts _ wf_Rw_20) (fun _ h9 => h9) rfl hdg kk
theorem fp_Rw_count {v : Int32} (hx0 : p.tables.exec = Jvm.exec) (hb : c.code = cc) (hts : ∀ w ∈ zws, w.before args s = true) (hown : s.vm.findClass R_Rw = some m.cls) (hZ : ZZC G s M H locs) (hdg : decode cc pc = .ok (.putfield 20, 3)) (kk : ∀ (H1 : Heap) (locs1 : List Loc), ZZC G s (wF M 9 2 v) H1 locs1 → W p l e R s m args below meth c H1 locs1 cells slots Q (F0 m (pc + 3) ls rest)) : W p l e R s m args below meth c H locs cells slots Q (F0 m pc ls (.int v :: .ref (G.1 9) :: rest)) :=
  va_put (D := G.2.2) (ci := 1) (v := .int v) (ty := .int) (C := R_Rw) (T := F_Rw) (N := 3) hx0 hb hts in_Rw t_Rw t_Rw_ok n_Rw hown hZ.2.1.1 hZ.2.2.1 (wlDC hZ.1 M s.heap.size) hZ.2.2.2 9 rfl rfl 2 (by decide) (hts _ wf_Rw_20) (fun _ h9 => h9) rfl (by decide +kernel) rfl rfl (Nat.le_of_ble_eq_true rfl) hdg (fun H1 locs1 hP _ hS => kk H1 locs1 ⟨hZ.1, hZ.2.1, hP, hS⟩)
theorem fg_Gr_columns (hx0 : p.tables.exec = Jvm.exec) (hb : c.code = cc) (hts : ∀ w ∈ zws, w.before args s = true) (hown : s.vm.findClass R_Gr = some m.cls) (hZ : ZZC G s M H locs) (hdg : decode cc pc = .ok (.getfield 15, 3)) (kk : W p l e R s m args below meth c H locs cells slots Q (F0 m (pc + 3) ls (.int (M.1 17 0) :: rest))) : W p l e R s m args below meth c H locs cells slots Q (F0 m pc ls (.ref (G.1 17) :: rest)) :=
  va_get (D := G.2.2) (ci := 2) (v := .int (M.1 17 0)) (C := R_Gr) (T := F_Gr) (N := 2) hx0 hb hts in_Gr hown hZ.2.1.1 hZ.2.2.1 17 rfl rfl 0 (by decide) (hts _ wf_Gr_15) (fun _ h9 => h9) rfl hdg kk
theorem fg_Gr_groupOf (hx0 : p.tables.exec = Jvm.exec) (hb : c.code = cc) (hts : ∀ w ∈ zws, w.before args s = true) (hown : s.vm.findClass R_Gr = some m.cls) (hZ : ZZC G s M H locs) (hdg : decode cc pc = .ok (.getfield 9, 3)) (kk : W p l e R s m args below meth c H locs cells slots Q (F0 m (pc + 3) ls (.ref (G.1 18) :: rest))) : W p l e R s m args below meth c H locs cells slots Q (F0 m pc ls (.ref (G.1 17) :: rest)) :=
  va_get (D := G.2.2) (ci := 2) (v := .ref (G.1 18)) (C := R_Gr) (T := F_Gr) (N := 2) hx0 hb hts in_Gr hown hZ.2.1.1 hZ.2.2.1 17 rfl rfl 1 (by decide) (hts _ wf_Gr_9) (fun _ h9 => h9) rfl hdg kk
theorem fg_Or_groups (hx0 : p.tables.exec = Jvm.exec) (hb : c.code = cc) (hts : ∀ w ∈ zws, w.before args s = true) (hown : s.vm.findClass R_Or = some m.cls) (hZ : ZZC G s M H locs) (hdg : decode cc pc = .ok (.getfield 22, 3)) (kk : W p l e R s m args below meth c H locs cells slots Q (F0 m (pc + 3) ls (.ref (G.1 17) :: rest))) : W p l e R s m args below meth c H locs cells slots Q (F0 m pc ls (.ref (G.1 22) :: rest)) :=
  va_get (D := G.2.2) (ci := 3) (v := .ref (G.1 17)) (C := R_Or) (T := F_Or) (N := 4) hx0 hb hts in_Or hown hZ.2.1.1 hZ.2.2.1 22 rfl rfl 0 (by decide) (hts _ wf_Or_22) (fun _ h9 => h9) rfl hdg kk
theorem fg_Or_order (hx0 : p.tables.exec = Jvm.exec) (hb : c.code = cc) (hts : ∀ w ∈ zws, w.before args s = true) (hown : s.vm.findClass R_Or = some m.cls) (hZ : ZZC G s M H locs) (hdg : decode cc pc = .ok (.getfield 9, 3)) (kk : W p l e R s m args below meth c H locs cells slots Q (F0 m (pc + 3) ls (.ref (G.1 23) :: rest))) : W p l e R s m args below meth c H locs cells slots Q (F0 m pc ls (.ref (G.1 22) :: rest)) :=
  va_get (D := G.2.2) (ci := 3) (v := .ref (G.1 23)) (C := R_Or) (T := F_Or) (N := 4) hx0 hb hts in_Or hown hZ.2.1.1 hZ.2.2.1 22 rfl rfl 1 (by decide) (hts _ wf_Or_9) (fun _ h9 => h9) rfl hdg kk
theorem fg_Or_count (hx0 : p.tables.exec = Jvm.exec) (hb : c.code = cc) (hts : ∀ w ∈ zws, w.before args s = true) (hown : s.vm.findClass R_Or = some m.cls) (hZ : ZZC G s M H locs) (hdg : decode cc pc = .ok (.getfield 15, 3)) (kk : W p l e R s m args below meth c H locs cells slots Q (F0 m (pc + 3) ls (.int (M.1 22 2) :: rest))) : W p l e R s m args below meth c H locs cells slots Q (F0 m pc ls (.ref (G.1 22) :: rest)) :=
  va_get (D := G.2.2) (ci := 3) (v := .int (M.1 22 2)) (C := R_Or) (T := F_Or) (N := 4) hx0 hb hts in_Or hown hZ.2.1.1 hZ.2.2.1 22 rfl rfl 2 (by decide) (hts _ wf_Or_15) (fun _ h9 => h9) rfl hdg kk
theorem fp_Or_count {v : Int32} (hx0 : p.tables.exec = Jvm.exec) (hb : c.code = cc) (hts : ∀ w ∈ zws, w.before args s = true) (hown : s.vm.findClass R_Or = some m.cls) (hZ : ZZC G s M H locs) (hdg : decode cc pc = .ok (.putfield 15, 3)) (kk : ∀ (H1 : Heap) (locs1 : List Loc), ZZC G s (wF M 22 2 v) H1 locs1 → W p l e R s m args below meth c H1 locs1 cells slots Q (F0 m (pc + 3) ls rest)) : W p l e R s m args below meth c H locs cells slots Q (F0 m pc ls (.int v :: .ref (G.1 22) :: rest)) :=
  va_put (D := G.2.2) (ci := 3) (v := .int v) (ty := .int) (C := R_Or) (T := F_Or) (N := 4) hx0 hb hts in_Or t_Or t_Or_ok n_Or hown hZ.2.1.1 hZ.2.2.1 (wlDC hZ.1 M s.heap.size) hZ.2.2.2 22 rfl rfl 2 (by decide) (hts _ wf_Or_15) (fun _ h9 => h9) rfl (by decide +kernel) rfl rfl (Nat.le_of_ble_eq_true rfl) hdg (fun H1 locs1 hP _ hS => kk H1 locs1 ⟨hZ.1, hZ.2.1, hP, hS⟩)
theorem fg_Or_z (hx0 : p.tables.exec = Jvm.exec) (hb : c.code = cc) (hts : ∀ w ∈ zws, w.before args s = true) (hown : s.vm.findClass R_Or = some m.cls) (hZ : ZZC G s M H locs) (hdg : decode cc pc = .ok (.getfield 19, 3)) (kk : W p l e R s m args below meth c H locs cells slots Q (F0 m (pc + 3) ls (.int (M.1 22 3) :: rest))) : W p l e R s m args below meth c H locs cells slots Q (F0 m pc ls (.ref (G.1 22) :: rest)) :=
  va_get (D := G.2.2) (ci := 3) (v := .int (M.1 22 3)) (C := R_Or) (T := F_Or) (N := 4) hx0 hb hts in_Or hown hZ.2.1.1 hZ.2.2.1 22 rfl rfl 3 (by decide) (hts _ wf_Or_19) (fun _ h9 => h9) rfl hdg kk
theorem fp_Or_z {v : Int32} (hx0 : p.tables.exec = Jvm.exec) (hb : c.code = cc) (hts : ∀ w ∈ zws, w.before args s = true) (hown : s.vm.findClass R_Or = some m.cls) (hZ : ZZC G s M H locs) (hdg : decode cc pc = .ok (.putfield 19, 3)) (kk : ∀ (H1 : Heap) (locs1 : List Loc), ZZC G s (wF M 22 3 v) H1 locs1 → W p l e R s m args below meth c H1 locs1 cells slots Q (F0 m (pc + 3) ls rest)) : W p l e R s m args below meth c H locs cells slots Q (F0 m pc ls (.int v :: .ref (G.1 22) :: rest)) :=
  va_put (D := G.2.2) (ci := 3) (v := .int v) (ty := .int) (C := R_Or) (T := F_Or) (N := 4) hx0 hb hts in_Or t_Or t_Or_ok n_Or hown hZ.2.1.1 hZ.2.2.1 (wlDC hZ.1 M s.heap.size) hZ.2.2.2 22 rfl rfl 3 (by decide) (hts _ wf_Or_19) (fun _ h9 => h9) rfl (by decide +kernel) rfl rfl (Nat.le_of_ble_eq_true rfl) hdg (fun H1 locs1 hP _ hS => kk H1 locs1 ⟨hZ.1, hZ.2.1, hP, hS⟩)
theorem fg_Me_learner (hx0 : p.tables.exec = Jvm.exec) (hb : c.code = cc) (hts : ∀ w ∈ zws, w.before args s = true) (hown : s.vm.findClass R_Me = some m.cls) (hZ : ZZC G s M H locs) (hdg : decode cc pc = .ok (.getfield 19, 3)) (kk : W p l e R s m args below meth c H locs cells slots Q (F0 m (pc + 3) ls (.ref (G.1 1) :: rest))) : W p l e R s m args below meth c H locs cells slots Q (F0 m pc ls (.ref (G.1 19) :: rest)) :=
  va_get (D := G.2.2) (ci := 4) (v := .ref (G.1 1)) (C := R_Me) (T := F_Me) (N := 6) hx0 hb hts in_Me hown hZ.2.1.1 hZ.2.2.1 19 rfl rfl 0 (by decide) (hts _ wf_Me_19) (fun _ h9 => h9) rfl hdg kk
theorem fg_Me_rows (hx0 : p.tables.exec = Jvm.exec) (hb : c.code = cc) (hts : ∀ w ∈ zws, w.before args s = true) (hown : s.vm.findClass R_Me = some m.cls) (hZ : ZZC G s M H locs) (hdg : decode cc pc = .ok (.getfield 23, 3)) (kk : W p l e R s m args below meth c H locs cells slots Q (F0 m (pc + 3) ls (.ref (G.1 9) :: rest))) : W p l e R s m args below meth c H locs cells slots Q (F0 m pc ls (.ref (G.1 19) :: rest)) :=
  va_get (D := G.2.2) (ci := 4) (v := .ref (G.1 9)) (C := R_Me) (T := F_Me) (N := 6) hx0 hb hts in_Me hown hZ.2.1.1 hZ.2.2.1 19 rfl rfl 1 (by decide) (hts _ wf_Me_23) (fun _ h9 => h9) rfl hdg kk
theorem fg_Me_groups (hx0 : p.tables.exec = Jvm.exec) (hb : c.code = cc) (hts : ∀ w ∈ zws, w.before args s = true) (hown : s.vm.findClass R_Me = some m.cls) (hZ : ZZC G s M H locs) (hdg : decode cc pc = .ok (.getfield 27, 3)) (kk : W p l e R s m args below meth c H locs cells slots Q (F0 m (pc + 3) ls (.ref (G.1 17) :: rest))) : W p l e R s m args below meth c H locs cells slots Q (F0 m pc ls (.ref (G.1 19) :: rest)) :=
  va_get (D := G.2.2) (ci := 4) (v := .ref (G.1 17)) (C := R_Me) (T := F_Me) (N := 6) hx0 hb hts in_Me hown hZ.2.1.1 hZ.2.2.1 19 rfl rfl 2 (by decide) (hts _ wf_Me_27) (fun _ h9 => h9) rfl hdg kk
theorem fg_Me_orders (hx0 : p.tables.exec = Jvm.exec) (hb : c.code = cc) (hts : ∀ w ∈ zws, w.before args s = true) (hown : s.vm.findClass R_Me = some m.cls) (hZ : ZZC G s M H locs) (hdg : decode cc pc = .ok (.getfield 36, 3)) (kk : W p l e R s m args below meth c H locs cells slots Q (F0 m (pc + 3) ls (.ref (G.1 22) :: rest))) : W p l e R s m args below meth c H locs cells slots Q (F0 m pc ls (.ref (G.1 19) :: rest)) :=
  va_get (D := G.2.2) (ci := 4) (v := .ref (G.1 22)) (C := R_Me) (T := F_Me) (N := 6) hx0 hb hts in_Me hown hZ.2.1.1 hZ.2.2.1 19 rfl rfl 3 (by decide) (hts _ wf_Me_36) (fun _ h9 => h9) rfl hdg kk
theorem fg_Me_mixed (hx0 : p.tables.exec = Jvm.exec) (hb : c.code = cc) (hts : ∀ w ∈ zws, w.before args s = true) (hown : s.vm.findClass R_Me = some m.cls) (hZ : ZZC G s M H locs) (hdg : decode cc pc = .ok (.getfield 9, 3)) (kk : W p l e R s m args below meth c H locs cells slots Q (F0 m (pc + 3) ls (.ref (G.1 20) :: rest))) : W p l e R s m args below meth c H locs cells slots Q (F0 m pc ls (.ref (G.1 19) :: rest)) :=
  va_get (D := G.2.2) (ci := 4) (v := .ref (G.1 20)) (C := R_Me) (T := F_Me) (N := 6) hx0 hb hts in_Me hown hZ.2.1.1 hZ.2.2.1 19 rfl rfl 4 (by decide) (hts _ wf_Me_9) (fun _ h9 => h9) rfl hdg kk
theorem fg_Me_sizes (hx0 : p.tables.exec = Jvm.exec) (hb : c.code = cc) (hts : ∀ w ∈ zws, w.before args s = true) (hown : s.vm.findClass R_Me = some m.cls) (hZ : ZZC G s M H locs) (hdg : decode cc pc = .ok (.getfield 15, 3)) (kk : W p l e R s m args below meth c H locs cells slots Q (F0 m (pc + 3) ls (.ref (G.1 21) :: rest))) : W p l e R s m args below meth c H locs cells slots Q (F0 m pc ls (.ref (G.1 19) :: rest)) :=
  va_get (D := G.2.2) (ci := 4) (v := .ref (G.1 21)) (C := R_Me) (T := F_Me) (N := 6) hx0 hb hts in_Me hown hZ.2.1.1 hZ.2.2.1 19 rfl rfl 5 (by decide) (hts _ wf_Me_15) (fun _ h9 => h9) rfl hdg kk
theorem fg_Se_columns (hx0 : p.tables.exec = Jvm.exec) (hb : c.code = cc) (hts : ∀ w ∈ zws, w.before args s = true) (hown : s.vm.findClass R_Se = some m.cls) (hZ : ZZC G s M H locs) (hdg : decode cc pc = .ok (.getfield 41, 3)) (kk : W p l e R s m args below meth c H locs cells slots Q (F0 m (pc + 3) ls (.int (M.1 24 0) :: rest))) : W p l e R s m args below meth c H locs cells slots Q (F0 m pc ls (.ref (G.1 24) :: rest)) :=
  va_get (D := G.2.2) (ci := 5) (v := .int (M.1 24 0)) (C := R_Se) (T := F_Se) (N := 11) hx0 hb hts in_Se hown hZ.2.1.1 hZ.2.2.1 24 rfl rfl 0 (by decide) (hts _ wf_Se_41) (fun _ h9 => h9) rfl hdg kk
theorem fg_Se_learner (hx0 : p.tables.exec = Jvm.exec) (hb : c.code = cc) (hts : ∀ w ∈ zws, w.before args s = true) (hown : s.vm.findClass R_Se = some m.cls) (hZ : ZZC G s M H locs) (hdg : decode cc pc = .ok (.getfield 44, 3)) (kk : W p l e R s m args below meth c H locs cells slots Q (F0 m (pc + 3) ls (.ref (G.1 1) :: rest))) : W p l e R s m args below meth c H locs cells slots Q (F0 m pc ls (.ref (G.1 24) :: rest)) :=
  va_get (D := G.2.2) (ci := 5) (v := .ref (G.1 1)) (C := R_Se) (T := F_Se) (N := 11) hx0 hb hts in_Se hown hZ.2.1.1 hZ.2.2.1 24 rfl rfl 1 (by decide) (hts _ wf_Se_44) (fun _ h9 => h9) rfl hdg kk
theorem fg_Se_rows (hx0 : p.tables.exec = Jvm.exec) (hb : c.code = cc) (hts : ∀ w ∈ zws, w.before args s = true) (hown : s.vm.findClass R_Se = some m.cls) (hZ : ZZC G s M H locs) (hdg : decode cc pc = .ok (.getfield 48, 3)) (kk : W p l e R s m args below meth c H locs cells slots Q (F0 m (pc + 3) ls (.ref (G.1 9) :: rest))) : W p l e R s m args below meth c H locs cells slots Q (F0 m pc ls (.ref (G.1 24) :: rest)) :=
  va_get (D := G.2.2) (ci := 5) (v := .ref (G.1 9)) (C := R_Se) (T := F_Se) (N := 11) hx0 hb hts in_Se hown hZ.2.1.1 hZ.2.2.1 24 rfl rfl 2 (by decide) (hts _ wf_Se_48) (fun _ h9 => h9) rfl hdg kk
theorem fg_Se_barred (hx0 : p.tables.exec = Jvm.exec) (hb : c.code = cc) (hts : ∀ w ∈ zws, w.before args s = true) (hown : s.vm.findClass R_Se = some m.cls) (hZ : ZZC G s M H locs) (hdg : decode cc pc = .ok (.getfield 9, 3)) (kk : W p l e R s m args below meth c H locs cells slots Q (F0 m (pc + 3) ls (.ref (G.1 25) :: rest))) : W p l e R s m args below meth c H locs cells slots Q (F0 m pc ls (.ref (G.1 24) :: rest)) :=
  va_get (D := G.2.2) (ci := 5) (v := .ref (G.1 25)) (C := R_Se) (T := F_Se) (N := 11) hx0 hb hts in_Se hown hZ.2.1.1 hZ.2.2.1 24 rfl rfl 3 (by decide) (hts _ wf_Se_9) (fun _ h9 => h9) rfl hdg kk
theorem fg_Se_choices (hx0 : p.tables.exec = Jvm.exec) (hb : c.code = cc) (hts : ∀ w ∈ zws, w.before args s = true) (hown : s.vm.findClass R_Se = some m.cls) (hZ : ZZC G s M H locs) (hdg : decode cc pc = .ok (.getfield 17, 3)) (kk : W p l e R s m args below meth c H locs cells slots Q (F0 m (pc + 3) ls (.ref (G.1 26) :: rest))) : W p l e R s m args below meth c H locs cells slots Q (F0 m pc ls (.ref (G.1 24) :: rest)) :=
  va_get (D := G.2.2) (ci := 5) (v := .ref (G.1 26)) (C := R_Se) (T := F_Se) (N := 11) hx0 hb hts in_Se hown hZ.2.1.1 hZ.2.2.1 24 rfl rfl 4 (by decide) (hts _ wf_Se_17) (fun _ h9 => h9) rfl hdg kk
theorem fg_Se_choiceCounts (hx0 : p.tables.exec = Jvm.exec) (hb : c.code = cc) (hts : ∀ w ∈ zws, w.before args s = true) (hown : s.vm.findClass R_Se = some m.cls) (hZ : ZZC G s M H locs) (hdg : decode cc pc = .ok (.getfield 20, 3)) (kk : W p l e R s m args below meth c H locs cells slots Q (F0 m (pc + 3) ls (.ref (G.1 33) :: rest))) : W p l e R s m args below meth c H locs cells slots Q (F0 m pc ls (.ref (G.1 24) :: rest)) :=
  va_get (D := G.2.2) (ci := 5) (v := .ref (G.1 33)) (C := R_Se) (T := F_Se) (N := 11) hx0 hb hts in_Se hown hZ.2.1.1 hZ.2.2.1 24 rfl rfl 5 (by decide) (hts _ wf_Se_20) (fun _ h9 => h9) rfl hdg kk
theorem fg_Se_least (hx0 : p.tables.exec = Jvm.exec) (hb : c.code = cc) (hts : ∀ w ∈ zws, w.before args s = true) (hown : s.vm.findClass R_Se = some m.cls) (hZ : ZZC G s M H locs) (hdg : decode cc pc = .ok (.getfield 24, 3)) (kk : W p l e R s m args below meth c H locs cells slots Q (F0 m (pc + 3) ls (.ref (G.1 34) :: rest))) : W p l e R s m args below meth c H locs cells slots Q (F0 m pc ls (.ref (G.1 24) :: rest)) :=
  va_get (D := G.2.2) (ci := 5) (v := .ref (G.1 34)) (C := R_Se) (T := F_Se) (N := 11) hx0 hb hts in_Se hown hZ.2.1.1 hZ.2.2.1 24 rfl rfl 6 (by decide) (hts _ wf_Se_24) (fun _ h9 => h9) rfl hdg kk
theorem fg_Se_most (hx0 : p.tables.exec = Jvm.exec) (hb : c.code = cc) (hts : ∀ w ∈ zws, w.before args s = true) (hown : s.vm.findClass R_Se = some m.cls) (hZ : ZZC G s M H locs) (hdg : decode cc pc = .ok (.getfield 27, 3)) (kk : W p l e R s m args below meth c H locs cells slots Q (F0 m (pc + 3) ls (.ref (G.1 35) :: rest))) : W p l e R s m args below meth c H locs cells slots Q (F0 m pc ls (.ref (G.1 24) :: rest)) :=
  va_get (D := G.2.2) (ci := 5) (v := .ref (G.1 35)) (C := R_Se) (T := F_Se) (N := 11) hx0 hb hts in_Se hown hZ.2.1.1 hZ.2.2.1 24 rfl rfl 7 (by decide) (hts _ wf_Se_27) (fun _ h9 => h9) rfl hdg kk
theorem fg_Se_best (hx0 : p.tables.exec = Jvm.exec) (hb : c.code = cc) (hts : ∀ w ∈ zws, w.before args s = true) (hown : s.vm.findClass R_Se = some m.cls) (hZ : ZZC G s M H locs) (hdg : decode cc pc = .ok (.getfield 30, 3)) (kk : W p l e R s m args below meth c H locs cells slots Q (F0 m (pc + 3) ls (.ref (G.1 36) :: rest))) : W p l e R s m args below meth c H locs cells slots Q (F0 m pc ls (.ref (G.1 24) :: rest)) :=
  va_get (D := G.2.2) (ci := 5) (v := .ref (G.1 36)) (C := R_Se) (T := F_Se) (N := 11) hx0 hb hts in_Se hown hZ.2.1.1 hZ.2.2.1 24 rfl rfl 8 (by decide) (hts _ wf_Se_30) (fun _ h9 => h9) rfl hdg kk
theorem fg_Se_bestCost (hx0 : p.tables.exec = Jvm.exec) (hb : c.code = cc) (hts : ∀ w ∈ zws, w.before args s = true) (hown : s.vm.findClass R_Se = some m.cls) (hZ : ZZC G s M H locs) (hdg : decode cc pc = .ok (.getfield 34, 3)) (kk : W p l e R s m args below meth c H locs cells slots Q (F0 m (pc + 3) ls (.int (M.1 24 9) :: rest))) : W p l e R s m args below meth c H locs cells slots Q (F0 m pc ls (.ref (G.1 24) :: rest)) :=
  va_get (D := G.2.2) (ci := 5) (v := .int (M.1 24 9)) (C := R_Se) (T := F_Se) (N := 11) hx0 hb hts in_Se hown hZ.2.1.1 hZ.2.2.1 24 rfl rfl 9 (by decide) (hts _ wf_Se_34) (fun _ h9 => h9) rfl hdg kk
theorem fp_Se_bestCost {v : Int32} (hx0 : p.tables.exec = Jvm.exec) (hb : c.code = cc) (hts : ∀ w ∈ zws, w.before args s = true) (hown : s.vm.findClass R_Se = some m.cls) (hZ : ZZC G s M H locs) (hdg : decode cc pc = .ok (.putfield 34, 3)) (kk : ∀ (H1 : Heap) (locs1 : List Loc), ZZC G s (wF M 24 9 v) H1 locs1 → W p l e R s m args below meth c H1 locs1 cells slots Q (F0 m (pc + 3) ls rest)) : W p l e R s m args below meth c H locs cells slots Q (F0 m pc ls (.int v :: .ref (G.1 24) :: rest)) :=
  va_put (D := G.2.2) (ci := 5) (v := .int v) (ty := .int) (C := R_Se) (T := F_Se) (N := 11) hx0 hb hts in_Se t_Se t_Se_ok n_Se hown hZ.2.1.1 hZ.2.2.1 (wlDC hZ.1 M s.heap.size) hZ.2.2.2 24 rfl rfl 9 (by decide) (hts _ wf_Se_34) (fun _ h9 => h9) rfl (by decide +kernel) rfl rfl (Nat.le_of_ble_eq_true rfl) hdg (fun H1 locs1 hP _ hS => kk H1 locs1 ⟨hZ.1, hZ.2.1, hP, hS⟩)
theorem fg_Se_wanted (hx0 : p.tables.exec = Jvm.exec) (hb : c.code = cc) (hts : ∀ w ∈ zws, w.before args s = true) (hown : s.vm.findClass R_Se = some m.cls) (hZ : ZZC G s M H locs) (hdg : decode cc pc = .ok (.getfield 38, 3)) (kk : W p l e R s m args below meth c H locs cells slots Q (F0 m (pc + 3) ls (.int (M.1 24 10) :: rest))) : W p l e R s m args below meth c H locs cells slots Q (F0 m pc ls (.ref (G.1 24) :: rest)) :=
  va_get (D := G.2.2) (ci := 5) (v := .int (M.1 24 10)) (C := R_Se) (T := F_Se) (N := 11) hx0 hb hts in_Se hown hZ.2.1.1 hZ.2.2.1 24 rfl rfl 10 (by decide) (hts _ wf_Se_38) (fun _ h9 => h9) rfl hdg kk
theorem fp_Se_wanted {v : Int32} (hx0 : p.tables.exec = Jvm.exec) (hb : c.code = cc) (hts : ∀ w ∈ zws, w.before args s = true) (hown : s.vm.findClass R_Se = some m.cls) (hZ : ZZC G s M H locs) (hdg : decode cc pc = .ok (.putfield 38, 3)) (kk : ∀ (H1 : Heap) (locs1 : List Loc), ZZC G s (wF M 24 10 v) H1 locs1 → W p l e R s m args below meth c H1 locs1 cells slots Q (F0 m (pc + 3) ls rest)) : W p l e R s m args below meth c H locs cells slots Q (F0 m pc ls (.int v :: .ref (G.1 24) :: rest)) :=
  va_put (D := G.2.2) (ci := 5) (v := .int v) (ty := .int) (C := R_Se) (T := F_Se) (N := 11) hx0 hb hts in_Se t_Se t_Se_ok n_Se hown hZ.2.1.1 hZ.2.2.1 (wlDC hZ.1 M s.heap.size) hZ.2.2.2 24 rfl rfl 10 (by decide) (hts _ wf_Se_38) (fun _ h9 => h9) rfl (by decide +kernel) rfl rfl (Nat.le_of_ble_eq_true rfl) hdg (fun H1 locs1 hP _ hS => kk H1 locs1 ⟨hZ.1, hZ.2.1, hP, hS⟩)
theorem fg_ES_columns (hx0 : p.tables.exec = Jvm.exec) (hb : c.code = cc) (hts : ∀ w ∈ zws, w.before args s = true) (hown : s.vm.findClass R_ES = some m.cls) (hZ : ZZC G s M H locs) (hdg : decode cc pc = .ok (.getfield 18, 3)) (kk : W p l e R s m args below meth c H locs cells slots Q (F0 m (pc + 3) ls (.int (M.1 0 0) :: rest))) : W p l e R s m args below meth c H locs cells slots Q (F0 m pc ls (.ref (G.1 0) :: rest)) :=
  va_get (D := G.2.2) (ci := 6) (v := .int (M.1 0 0)) (C := R_ES) (T := F_ES) (N := 6) hx0 hb hts in_ES hown hZ.2.1.1 hZ.2.2.1 0 rfl rfl 0 (by decide) (hts _ wf_ES_18) (fun _ h9 => h9) rfl hdg kk
theorem fg_ES_learner (hx0 : p.tables.exec = Jvm.exec) (hb : c.code = cc) (hts : ∀ w ∈ zws, w.before args s = true) (hown : s.vm.findClass R_ES = some m.cls) (hZ : ZZC G s M H locs) (hdg : decode cc pc = .ok (.getfield 25, 3)) (kk : W p l e R s m args below meth c H locs cells slots Q (F0 m (pc + 3) ls (.ref (G.1 1) :: rest))) : W p l e R s m args below meth c H locs cells slots Q (F0 m pc ls (.ref (G.1 0) :: rest)) :=
  va_get (D := G.2.2) (ci := 6) (v := .ref (G.1 1)) (C := R_ES) (T := F_ES) (N := 6) hx0 hb hts in_ES hown hZ.2.1.1 hZ.2.2.1 0 rfl rfl 1 (by decide) (hts _ wf_ES_25) (fun _ h9 => h9) rfl hdg kk
theorem fg_ES_rows (hx0 : p.tables.exec = Jvm.exec) (hb : c.code = cc) (hts : ∀ w ∈ zws, w.before args s = true) (hown : s.vm.findClass R_ES = some m.cls) (hZ : ZZC G s M H locs) (hdg : decode cc pc = .ok (.getfield 32, 3)) (kk : W p l e R s m args below meth c H locs cells slots Q (F0 m (pc + 3) ls (.ref (G.1 9) :: rest))) : W p l e R s m args below meth c H locs cells slots Q (F0 m pc ls (.ref (G.1 0) :: rest)) :=
  va_get (D := G.2.2) (ci := 6) (v := .ref (G.1 9)) (C := R_ES) (T := F_ES) (N := 6) hx0 hb hts in_ES hown hZ.2.1.1 hZ.2.2.1 0 rfl rfl 2 (by decide) (hts _ wf_ES_32) (fun _ h9 => h9) rfl hdg kk
theorem fg_ES_groups (hx0 : p.tables.exec = Jvm.exec) (hb : c.code = cc) (hts : ∀ w ∈ zws, w.before args s = true) (hown : s.vm.findClass R_ES = some m.cls) (hZ : ZZC G s M H locs) (hdg : decode cc pc = .ok (.getfield 41, 3)) (kk : W p l e R s m args below meth c H locs cells slots Q (F0 m (pc + 3) ls (.ref (G.1 17) :: rest))) : W p l e R s m args below meth c H locs cells slots Q (F0 m pc ls (.ref (G.1 0) :: rest)) :=
  va_get (D := G.2.2) (ci := 6) (v := .ref (G.1 17)) (C := R_ES) (T := F_ES) (N := 6) hx0 hb hts in_ES hown hZ.2.1.1 hZ.2.2.1 0 rfl rfl 3 (by decide) (hts _ wf_ES_41) (fun _ h9 => h9) rfl hdg kk
theorem fg_ES_means (hx0 : p.tables.exec = Jvm.exec) (hb : c.code = cc) (hts : ∀ w ∈ zws, w.before args s = true) (hown : s.vm.findClass R_ES = some m.cls) (hZ : ZZC G s M H locs) (hdg : decode cc pc = .ok (.getfield 50, 3)) (kk : W p l e R s m args below meth c H locs cells slots Q (F0 m (pc + 3) ls (.ref (G.1 19) :: rest))) : W p l e R s m args below meth c H locs cells slots Q (F0 m pc ls (.ref (G.1 0) :: rest)) :=
  va_get (D := G.2.2) (ci := 6) (v := .ref (G.1 19)) (C := R_ES) (T := F_ES) (N := 6) hx0 hb hts in_ES hown hZ.2.1.1 hZ.2.2.1 0 rfl rfl 4 (by decide) (hts _ wf_ES_50) (fun _ h9 => h9) rfl hdg kk
theorem fg_ES_search (hx0 : p.tables.exec = Jvm.exec) (hb : c.code = cc) (hts : ∀ w ∈ zws, w.before args s = true) (hown : s.vm.findClass R_ES = some m.cls) (hZ : ZZC G s M H locs) (hdg : decode cc pc = .ok (.getfield 59, 3)) (kk : W p l e R s m args below meth c H locs cells slots Q (F0 m (pc + 3) ls (.ref (G.1 24) :: rest))) : W p l e R s m args below meth c H locs cells slots Q (F0 m pc ls (.ref (G.1 0) :: rest)) :=
  va_get (D := G.2.2) (ci := 6) (v := .ref (G.1 24)) (C := R_ES) (T := F_ES) (N := 6) hx0 hb hts in_ES hown hZ.2.1.1 hZ.2.2.1 0 rfl rfl 5 (by decide) (hts _ wf_ES_59) (fun _ h9 => h9) rfl hdg kk
end ZFC
section ZFT
variable {p : Program} {l : Launch} {e : Env} {R : Room} {s : State} {m : MethodId} {args : Array Value} {below : List Frame} {meth : Method} {c : Code} {H : Heap} {locs : List Loc} {cells slots : Nat} {Q : State → Prop}
variable {cc : ByteArray} {pc nL : Nat} {ls : Array Slot} {rest : List Value} {G : zG} {M : Mem}
theorem fg_Md_code (hx0 : p.tables.exec = Jvm.exec) (hb : c.code = cc) (hts : ∀ w ∈ zws, w.before args s = true) (hown : s.vm.findClass R_Md = some m.cls) (hZ : ZZT G s M H locs) (hdg : decode cc pc = .ok (.getfield 71, 3)) (kk : W p l e R s m args below meth c H locs cells slots Q (F0 m (pc + 3) ls (.int (M.1 0 0) :: rest))) : W p l e R s m args below meth c H locs cells slots Q (F0 m pc ls (.ref (G.1 0) :: rest)) :=
  va_get (D := G.2.2) (ci := 7) (v := .int (M.1 0 0)) (C := R_Md) (T := F_Md) (N := 25) hx0 hb hts in_Md hown hZ.2.1.1 hZ.2.2.1 0 rfl rfl 0 (by decide) (hts _ wf_Md_71) (fun _ h9 => h9) rfl hdg kk
theorem fp_Md_code {v : Int32} (hx0 : p.tables.exec = Jvm.exec) (hb : c.code = cc) (hts : ∀ w ∈ zws, w.before args s = true) (hown : s.vm.findClass R_Md = some m.cls) (hZ : ZZT G s M H locs) (hdg : decode cc pc = .ok (.putfield 71, 3)) (kk : ∀ (H1 : Heap) (locs1 : List Loc), ZZT G s (wF M 0 0 v) H1 locs1 → W p l e R s m args below meth c H1 locs1 cells slots Q (F0 m (pc + 3) ls rest)) : W p l e R s m args below meth c H locs cells slots Q (F0 m pc ls (.int v :: .ref (G.1 0) :: rest)) :=
  va_put (D := G.2.2) (ci := 7) (v := .int v) (ty := .int) (C := R_Md) (T := F_Md) (N := 25) hx0 hb hts in_Md t_Md t_Md_ok n_Md hown hZ.2.1.1 hZ.2.2.1 (wlDT hZ.1 M s.heap.size) hZ.2.2.2 0 rfl rfl 0 (by decide) (hts _ wf_Md_71) (fun _ h9 => h9) rfl (by decide +kernel) rfl rfl (Nat.le_of_ble_eq_true rfl) hdg (fun H1 locs1 hP _ hS => kk H1 locs1 ⟨hZ.1, hZ.2.1, hP, hS⟩)
theorem fg_Md_columns (hx0 : p.tables.exec = Jvm.exec) (hb : c.code = cc) (hts : ∀ w ∈ zws, w.before args s = true) (hown : s.vm.findClass R_Md = some m.cls) (hZ : ZZT G s M H locs) (hdg : decode cc pc = .ok (.getfield 63, 3)) (kk : W p l e R s m args below meth c H locs cells slots Q (F0 m (pc + 3) ls (.int (M.1 0 1) :: rest))) : W p l e R s m args below meth c H locs cells slots Q (F0 m pc ls (.ref (G.1 0) :: rest)) :=
  va_get (D := G.2.2) (ci := 7) (v := .int (M.1 0 1)) (C := R_Md) (T := F_Md) (N := 25) hx0 hb hts in_Md hown hZ.2.1.1 hZ.2.2.1 0 rfl rfl 1 (by decide) (hts _ wf_Md_63) (fun _ h9 => h9) rfl hdg kk
theorem fg_Md_nodes (hx0 : p.tables.exec = Jvm.exec) (hb : c.code = cc) (hts : ∀ w ∈ zws, w.before args s = true) (hown : s.vm.findClass R_Md = some m.cls) (hZ : ZZT G s M H locs) (hdg : decode cc pc = .ok (.getfield 78, 3)) (kk : W p l e R s m args below meth c H locs cells slots Q (F0 m (pc + 3) ls (.int (M.1 0 2) :: rest))) : W p l e R s m args below meth c H locs cells slots Q (F0 m pc ls (.ref (G.1 0) :: rest)) :=
  va_get (D := G.2.2) (ci := 7) (v := .int (M.1 0 2)) (C := R_Md) (T := F_Md) (N := 25) hx0 hb hts in_Md hown hZ.2.1.1 hZ.2.2.1 0 rfl rfl 2 (by decide) (hts _ wf_Md_78) (fun _ h9 => h9) rfl hdg kk
theorem fp_Md_nodes {v : Int32} (hx0 : p.tables.exec = Jvm.exec) (hb : c.code = cc) (hts : ∀ w ∈ zws, w.before args s = true) (hown : s.vm.findClass R_Md = some m.cls) (hZ : ZZT G s M H locs) (hdg : decode cc pc = .ok (.putfield 78, 3)) (kk : ∀ (H1 : Heap) (locs1 : List Loc), ZZT G s (wF M 0 2 v) H1 locs1 → W p l e R s m args below meth c H1 locs1 cells slots Q (F0 m (pc + 3) ls rest)) : W p l e R s m args below meth c H locs cells slots Q (F0 m pc ls (.int v :: .ref (G.1 0) :: rest)) :=
  va_put (D := G.2.2) (ci := 7) (v := .int v) (ty := .int) (C := R_Md) (T := F_Md) (N := 25) hx0 hb hts in_Md t_Md t_Md_ok n_Md hown hZ.2.1.1 hZ.2.2.1 (wlDT hZ.1 M s.heap.size) hZ.2.2.2 0 rfl rfl 2 (by decide) (hts _ wf_Md_78) (fun _ h9 => h9) rfl (by decide +kernel) rfl rfl (Nat.le_of_ble_eq_true rfl) hdg (fun H1 locs1 hP _ hS => kk H1 locs1 ⟨hZ.1, hZ.2.1, hP, hS⟩)
theorem fg_Md_isLeaf (hx0 : p.tables.exec = Jvm.exec) (hb : c.code = cc) (hts : ∀ w ∈ zws, w.before args s = true) (hown : s.vm.findClass R_Md = some m.cls) (hZ : ZZT G s M H locs) (hdg : decode cc pc = .ok (.getfield 7, 3)) (kk : W p l e R s m args below meth c H locs cells slots Q (F0 m (pc + 3) ls (.ref (G.1 1) :: rest))) : W p l e R s m args below meth c H locs cells slots Q (F0 m pc ls (.ref (G.1 0) :: rest)) :=
  va_get (D := G.2.2) (ci := 7) (v := .ref (G.1 1)) (C := R_Md) (T := F_Md) (N := 25) hx0 hb hts in_Md hown hZ.2.1.1 hZ.2.2.1 0 rfl rfl 3 (by decide) (hts _ wf_Md_7) (fun _ h9 => h9) rfl hdg kk
theorem fg_Md_number (hx0 : p.tables.exec = Jvm.exec) (hb : c.code = cc) (hts : ∀ w ∈ zws, w.before args s = true) (hown : s.vm.findClass R_Md = some m.cls) (hZ : ZZT G s M H locs) (hdg : decode cc pc = .ok (.getfield 13, 3)) (kk : W p l e R s m args below meth c H locs cells slots Q (F0 m (pc + 3) ls (.ref (G.1 2) :: rest))) : W p l e R s m args below meth c H locs cells slots Q (F0 m pc ls (.ref (G.1 0) :: rest)) :=
  va_get (D := G.2.2) (ci := 7) (v := .ref (G.1 2)) (C := R_Md) (T := F_Md) (N := 25) hx0 hb hts in_Md hown hZ.2.1.1 hZ.2.2.1 0 rfl rfl 4 (by decide) (hts _ wf_Md_13) (fun _ h9 => h9) rfl hdg kk
theorem fg_Md_splitOf (hx0 : p.tables.exec = Jvm.exec) (hb : c.code = cc) (hts : ∀ w ∈ zws, w.before args s = true) (hown : s.vm.findClass R_Md = some m.cls) (hZ : ZZT G s M H locs) (hdg : decode cc pc = .ok (.getfield 17, 3)) (kk : W p l e R s m args below meth c H locs cells slots Q (F0 m (pc + 3) ls (.ref (G.1 3) :: rest))) : W p l e R s m args below meth c H locs cells slots Q (F0 m pc ls (.ref (G.1 0) :: rest)) :=
  va_get (D := G.2.2) (ci := 7) (v := .ref (G.1 3)) (C := R_Md) (T := F_Md) (N := 25) hx0 hb hts in_Md hown hZ.2.1.1 hZ.2.2.1 0 rfl rfl 5 (by decide) (hts _ wf_Md_17) (fun _ h9 => h9) rfl hdg kk
theorem fg_Md_low (hx0 : p.tables.exec = Jvm.exec) (hb : c.code = cc) (hts : ∀ w ∈ zws, w.before args s = true) (hown : s.vm.findClass R_Md = some m.cls) (hZ : ZZT G s M H locs) (hdg : decode cc pc = .ok (.getfield 20, 3)) (kk : W p l e R s m args below meth c H locs cells slots Q (F0 m (pc + 3) ls (.ref (G.1 4) :: rest))) : W p l e R s m args below meth c H locs cells slots Q (F0 m pc ls (.ref (G.1 0) :: rest)) :=
  va_get (D := G.2.2) (ci := 7) (v := .ref (G.1 4)) (C := R_Md) (T := F_Md) (N := 25) hx0 hb hts in_Md hown hZ.2.1.1 hZ.2.2.1 0 rfl rfl 6 (by decide) (hts _ wf_Md_20) (fun _ h9 => h9) rfl hdg kk
theorem fg_Md_high (hx0 : p.tables.exec = Jvm.exec) (hb : c.code = cc) (hts : ∀ w ∈ zws, w.before args s = true) (hown : s.vm.findClass R_Md = some m.cls) (hZ : ZZT G s M H locs) (hdg : decode cc pc = .ok (.getfield 23, 3)) (kk : W p l e R s m args below meth c H locs cells slots Q (F0 m (pc + 3) ls (.ref (G.1 5) :: rest))) : W p l e R s m args below meth c H locs cells slots Q (F0 m pc ls (.ref (G.1 0) :: rest)) :=
  va_get (D := G.2.2) (ci := 7) (v := .ref (G.1 5)) (C := R_Md) (T := F_Md) (N := 25) hx0 hb hts in_Md hown hZ.2.1.1 hZ.2.2.1 0 rfl rfl 7 (by decide) (hts _ wf_Md_23) (fun _ h9 => h9) rfl hdg kk
theorem fg_Md_roots (hx0 : p.tables.exec = Jvm.exec) (hb : c.code = cc) (hts : ∀ w ∈ zws, w.before args s = true) (hown : s.vm.findClass R_Md = some m.cls) (hZ : ZZT G s M H locs) (hdg : decode cc pc = .ok (.getfield 85, 3)) (kk : W p l e R s m args below meth c H locs cells slots Q (F0 m (pc + 3) ls (.int (M.1 0 8) :: rest))) : W p l e R s m args below meth c H locs cells slots Q (F0 m pc ls (.ref (G.1 0) :: rest)) :=
  va_get (D := G.2.2) (ci := 7) (v := .int (M.1 0 8)) (C := R_Md) (T := F_Md) (N := 25) hx0 hb hts in_Md hown hZ.2.1.1 hZ.2.2.1 0 rfl rfl 8 (by decide) (hts _ wf_Md_85) (fun _ h9 => h9) rfl hdg kk
theorem fp_Md_roots {v : Int32} (hx0 : p.tables.exec = Jvm.exec) (hb : c.code = cc) (hts : ∀ w ∈ zws, w.before args s = true) (hown : s.vm.findClass R_Md = some m.cls) (hZ : ZZT G s M H locs) (hdg : decode cc pc = .ok (.putfield 85, 3)) (kk : ∀ (H1 : Heap) (locs1 : List Loc), ZZT G s (wF M 0 8 v) H1 locs1 → W p l e R s m args below meth c H1 locs1 cells slots Q (F0 m (pc + 3) ls rest)) : W p l e R s m args below meth c H locs cells slots Q (F0 m pc ls (.int v :: .ref (G.1 0) :: rest)) :=
  va_put (D := G.2.2) (ci := 7) (v := .int v) (ty := .int) (C := R_Md) (T := F_Md) (N := 25) hx0 hb hts in_Md t_Md t_Md_ok n_Md hown hZ.2.1.1 hZ.2.2.1 (wlDT hZ.1 M s.heap.size) hZ.2.2.2 0 rfl rfl 8 (by decide) (hts _ wf_Md_85) (fun _ h9 => h9) rfl (by decide +kernel) rfl rfl (Nat.le_of_ble_eq_true rfl) hdg (fun H1 locs1 hP _ hS => kk H1 locs1 ⟨hZ.1, hZ.2.1, hP, hS⟩)
theorem fg_Md_root (hx0 : p.tables.exec = Jvm.exec) (hb : c.code = cc) (hts : ∀ w ∈ zws, w.before args s = true) (hown : s.vm.findClass R_Md = some m.cls) (hZ : ZZT G s M H locs) (hdg : decode cc pc = .ok (.getfield 26, 3)) (kk : W p l e R s m args below meth c H locs cells slots Q (F0 m (pc + 3) ls (.ref (G.1 6) :: rest))) : W p l e R s m args below meth c H locs cells slots Q (F0 m pc ls (.ref (G.1 0) :: rest)) :=
  va_get (D := G.2.2) (ci := 7) (v := .ref (G.1 6)) (C := R_Md) (T := F_Md) (N := 25) hx0 hb hts in_Md hown hZ.2.1.1 hZ.2.2.1 0 rfl rfl 9 (by decide) (hts _ wf_Md_26) (fun _ h9 => h9) rfl hdg kk
theorem fg_Md_weights (hx0 : p.tables.exec = Jvm.exec) (hb : c.code = cc) (hts : ∀ w ∈ zws, w.before args s = true) (hown : s.vm.findClass R_Md = some m.cls) (hZ : ZZT G s M H locs) (hdg : decode cc pc = .ok (.getfield 29, 3)) (kk : W p l e R s m args below meth c H locs cells slots Q (F0 m (pc + 3) ls (.ref (G.1 7) :: rest))) : W p l e R s m args below meth c H locs cells slots Q (F0 m pc ls (.ref (G.1 0) :: rest)) :=
  va_get (D := G.2.2) (ci := 7) (v := .ref (G.1 7)) (C := R_Md) (T := F_Md) (N := 25) hx0 hb hts in_Md hown hZ.2.1.1 hZ.2.2.1 0 rfl rfl 10 (by decide) (hts _ wf_Md_29) (fun _ h9 => h9) rfl hdg kk
theorem fg_Md_groups (hx0 : p.tables.exec = Jvm.exec) (hb : c.code = cc) (hts : ∀ w ∈ zws, w.before args s = true) (hown : s.vm.findClass R_Md = some m.cls) (hZ : ZZT G s M H locs) (hdg : decode cc pc = .ok (.getfield 32, 3)) (kk : W p l e R s m args below meth c H locs cells slots Q (F0 m (pc + 3) ls (.ref (G.1 8) :: rest))) : W p l e R s m args below meth c H locs cells slots Q (F0 m pc ls (.ref (G.1 0) :: rest)) :=
  va_get (D := G.2.2) (ci := 7) (v := .ref (G.1 8)) (C := R_Md) (T := F_Md) (N := 25) hx0 hb hts in_Md hown hZ.2.1.1 hZ.2.2.1 0 rfl rfl 11 (by decide) (hts _ wf_Md_32) (fun _ h9 => h9) rfl hdg kk
theorem fg_Md_barred (hx0 : p.tables.exec = Jvm.exec) (hb : c.code = cc) (hts : ∀ w ∈ zws, w.before args s = true) (hown : s.vm.findClass R_Md = some m.cls) (hZ : ZZT G s M H locs) (hdg : decode cc pc = .ok (.getfield 35, 3)) (kk : W p l e R s m args below meth c H locs cells slots Q (F0 m (pc + 3) ls (.ref (G.1 9) :: rest))) : W p l e R s m args below meth c H locs cells slots Q (F0 m pc ls (.ref (G.1 0) :: rest)) :=
  va_get (D := G.2.2) (ci := 7) (v := .ref (G.1 9)) (C := R_Md) (T := F_Md) (N := 25) hx0 hb hts in_Md hown hZ.2.1.1 hZ.2.2.1 0 rfl rfl 12 (by decide) (hts _ wf_Md_35) (fun _ h9 => h9) rfl hdg kk
theorem fg_Md_rows (hx0 : p.tables.exec = Jvm.exec) (hb : c.code = cc) (hts : ∀ w ∈ zws, w.before args s = true) (hown : s.vm.findClass R_Md = some m.cls) (hZ : ZZT G s M H locs) (hdg : decode cc pc = .ok (.getfield 88, 3)) (kk : W p l e R s m args below meth c H locs cells slots Q (F0 m (pc + 3) ls (.int (M.1 0 13) :: rest))) : W p l e R s m args below meth c H locs cells slots Q (F0 m pc ls (.ref (G.1 0) :: rest)) :=
  va_get (D := G.2.2) (ci := 7) (v := .int (M.1 0 13)) (C := R_Md) (T := F_Md) (N := 25) hx0 hb hts in_Md hown hZ.2.1.1 hZ.2.2.1 0 rfl rfl 13 (by decide) (hts _ wf_Md_88) (fun _ h9 => h9) rfl hdg kk
theorem fp_Md_rows {v : Int32} (hx0 : p.tables.exec = Jvm.exec) (hb : c.code = cc) (hts : ∀ w ∈ zws, w.before args s = true) (hown : s.vm.findClass R_Md = some m.cls) (hZ : ZZT G s M H locs) (hdg : decode cc pc = .ok (.putfield 88, 3)) (kk : ∀ (H1 : Heap) (locs1 : List Loc), ZZT G s (wF M 0 13 v) H1 locs1 → W p l e R s m args below meth c H1 locs1 cells slots Q (F0 m (pc + 3) ls rest)) : W p l e R s m args below meth c H locs cells slots Q (F0 m pc ls (.int v :: .ref (G.1 0) :: rest)) :=
  va_put (D := G.2.2) (ci := 7) (v := .int v) (ty := .int) (C := R_Md) (T := F_Md) (N := 25) hx0 hb hts in_Md t_Md t_Md_ok n_Md hown hZ.2.1.1 hZ.2.2.1 (wlDT hZ.1 M s.heap.size) hZ.2.2.2 0 rfl rfl 13 (by decide) (hts _ wf_Md_88) (fun _ h9 => h9) rfl (by decide +kernel) rfl rfl (Nat.le_of_ble_eq_true rfl) hdg (fun H1 locs1 hP _ hS => kk H1 locs1 ⟨hZ.1, hZ.2.1, hP, hS⟩)
theorem fg_Md_items (hx0 : p.tables.exec = Jvm.exec) (hb : c.code = cc) (hts : ∀ w ∈ zws, w.before args s = true) (hown : s.vm.findClass R_Md = some m.cls) (hZ : ZZT G s M H locs) (hdg : decode cc pc = .ok (.getfield 38, 3)) (kk : W p l e R s m args below meth c H locs cells slots Q (F0 m (pc + 3) ls (.ref (G.1 10) :: rest))) : W p l e R s m args below meth c H locs cells slots Q (F0 m pc ls (.ref (G.1 0) :: rest)) :=
  va_get (D := G.2.2) (ci := 7) (v := .ref (G.1 10)) (C := R_Md) (T := F_Md) (N := 25) hx0 hb hts in_Md hown hZ.2.1.1 hZ.2.2.1 0 rfl rfl 14 (by decide) (hts _ wf_Md_38) (fun _ h9 => h9) rfl hdg kk
theorem fg_Md_now (hx0 : p.tables.exec = Jvm.exec) (hb : c.code = cc) (hts : ∀ w ∈ zws, w.before args s = true) (hown : s.vm.findClass R_Md = some m.cls) (hZ : ZZT G s M H locs) (hdg : decode cc pc = .ok (.getfield 41, 3)) (kk : W p l e R s m args below meth c H locs cells slots Q (F0 m (pc + 3) ls (.ref (G.1 11) :: rest))) : W p l e R s m args below meth c H locs cells slots Q (F0 m pc ls (.ref (G.1 0) :: rest)) :=
  va_get (D := G.2.2) (ci := 7) (v := .ref (G.1 11)) (C := R_Md) (T := F_Md) (N := 25) hx0 hb hts in_Md hown hZ.2.1.1 hZ.2.2.1 0 rfl rfl 15 (by decide) (hts _ wf_Md_41) (fun _ h9 => h9) rfl hdg kk
theorem fg_Md_sums (hx0 : p.tables.exec = Jvm.exec) (hb : c.code = cc) (hts : ∀ w ∈ zws, w.before args s = true) (hown : s.vm.findClass R_Md = some m.cls) (hZ : ZZT G s M H locs) (hdg : decode cc pc = .ok (.getfield 44, 3)) (kk : W p l e R s m args below meth c H locs cells slots Q (F0 m (pc + 3) ls (.ref (G.1 12) :: rest))) : W p l e R s m args below meth c H locs cells slots Q (F0 m pc ls (.ref (G.1 0) :: rest)) :=
  va_get (D := G.2.2) (ci := 7) (v := .ref (G.1 12)) (C := R_Md) (T := F_Md) (N := 25) hx0 hb hts in_Md hown hZ.2.1.1 hZ.2.2.1 0 rfl rfl 16 (by decide) (hts _ wf_Md_44) (fun _ h9 => h9) rfl hdg kk
theorem fg_Md_many (hx0 : p.tables.exec = Jvm.exec) (hb : c.code = cc) (hts : ∀ w ∈ zws, w.before args s = true) (hown : s.vm.findClass R_Md = some m.cls) (hZ : ZZT G s M H locs) (hdg : decode cc pc = .ok (.getfield 112, 3)) (kk : W p l e R s m args below meth c H locs cells slots Q (F0 m (pc + 3) ls (.int (M.1 0 17) :: rest))) : W p l e R s m args below meth c H locs cells slots Q (F0 m pc ls (.ref (G.1 0) :: rest)) :=
  va_get (D := G.2.2) (ci := 7) (v := .int (M.1 0 17)) (C := R_Md) (T := F_Md) (N := 25) hx0 hb hts in_Md hown hZ.2.1.1 hZ.2.2.1 0 rfl rfl 17 (by decide) (hts _ wf_Md_112) (fun _ h9 => h9) rfl hdg kk
theorem fp_Md_many {v : Int32} (hx0 : p.tables.exec = Jvm.exec) (hb : c.code = cc) (hts : ∀ w ∈ zws, w.before args s = true) (hown : s.vm.findClass R_Md = some m.cls) (hZ : ZZT G s M H locs) (hdg : decode cc pc = .ok (.putfield 112, 3)) (kk : ∀ (H1 : Heap) (locs1 : List Loc), ZZT G s (wF M 0 17 v) H1 locs1 → W p l e R s m args below meth c H1 locs1 cells slots Q (F0 m (pc + 3) ls rest)) : W p l e R s m args below meth c H locs cells slots Q (F0 m pc ls (.int v :: .ref (G.1 0) :: rest)) :=
  va_put (D := G.2.2) (ci := 7) (v := .int v) (ty := .int) (C := R_Md) (T := F_Md) (N := 25) hx0 hb hts in_Md t_Md t_Md_ok n_Md hown hZ.2.1.1 hZ.2.2.1 (wlDT hZ.1 M s.heap.size) hZ.2.2.2 0 rfl rfl 17 (by decide) (hts _ wf_Md_112) (fun _ h9 => h9) rfl (by decide +kernel) rfl rfl (Nat.le_of_ble_eq_true rfl) hdg (fun H1 locs1 hP _ hS => kk H1 locs1 ⟨hZ.1, hZ.2.1, hP, hS⟩)
theorem fg_Md_parts (hx0 : p.tables.exec = Jvm.exec) (hb : c.code = cc) (hts : ∀ w ∈ zws, w.before args s = true) (hown : s.vm.findClass R_Md = some m.cls) (hZ : ZZT G s M H locs) (hdg : decode cc pc = .ok (.getfield 48, 3)) (kk : W p l e R s m args below meth c H locs cells slots Q (F0 m (pc + 3) ls (.ref (G.1 13) :: rest))) : W p l e R s m args below meth c H locs cells slots Q (F0 m pc ls (.ref (G.1 0) :: rest)) :=
  va_get (D := G.2.2) (ci := 7) (v := .ref (G.1 13)) (C := R_Md) (T := F_Md) (N := 25) hx0 hb hts in_Md hown hZ.2.1.1 hZ.2.2.1 0 rfl rfl 18 (by decide) (hts _ wf_Md_48) (fun _ h9 => h9) rfl hdg kk
theorem fg_Md_order (hx0 : p.tables.exec = Jvm.exec) (hb : c.code = cc) (hts : ∀ w ∈ zws, w.before args s = true) (hown : s.vm.findClass R_Md = some m.cls) (hZ : ZZT G s M H locs) (hdg : decode cc pc = .ok (.getfield 51, 3)) (kk : W p l e R s m args below meth c H locs cells slots Q (F0 m (pc + 3) ls (.ref (G.1 14) :: rest))) : W p l e R s m args below meth c H locs cells slots Q (F0 m pc ls (.ref (G.1 0) :: rest)) :=
  va_get (D := G.2.2) (ci := 7) (v := .ref (G.1 14)) (C := R_Md) (T := F_Md) (N := 25) hx0 hb hts in_Md hown hZ.2.1.1 hZ.2.2.1 0 rfl rfl 19 (by decide) (hts _ wf_Md_51) (fun _ h9 => h9) rfl hdg kk
theorem fg_Md_sizes (hx0 : p.tables.exec = Jvm.exec) (hb : c.code = cc) (hts : ∀ w ∈ zws, w.before args s = true) (hown : s.vm.findClass R_Md = some m.cls) (hZ : ZZT G s M H locs) (hdg : decode cc pc = .ok (.getfield 54, 3)) (kk : W p l e R s m args below meth c H locs cells slots Q (F0 m (pc + 3) ls (.ref (G.1 15) :: rest))) : W p l e R s m args below meth c H locs cells slots Q (F0 m pc ls (.ref (G.1 0) :: rest)) :=
  va_get (D := G.2.2) (ci := 7) (v := .ref (G.1 15)) (C := R_Md) (T := F_Md) (N := 25) hx0 hb hts in_Md hown hZ.2.1.1 hZ.2.2.1 0 rfl rfl 20 (by decide) (hts _ wf_Md_54) (fun _ h9 => h9) rfl hdg kk
theorem fg_Md_from (hx0 : p.tables.exec = Jvm.exec) (hb : c.code = cc) (hts : ∀ w ∈ zws, w.before args s = true) (hown : s.vm.findClass R_Md = some m.cls) (hZ : ZZT G s M H locs) (hdg : decode cc pc = .ok (.getfield 57, 3)) (kk : W p l e R s m args below meth c H locs cells slots Q (F0 m (pc + 3) ls (.ref (G.1 16) :: rest))) : W p l e R s m args below meth c H locs cells slots Q (F0 m pc ls (.ref (G.1 0) :: rest)) :=
  va_get (D := G.2.2) (ci := 7) (v := .ref (G.1 16)) (C := R_Md) (T := F_Md) (N := 25) hx0 hb hts in_Md hown hZ.2.1.1 hZ.2.2.1 0 rfl rfl 21 (by decide) (hts _ wf_Md_57) (fun _ h9 => h9) rfl hdg kk
theorem fg_Md_best (hx0 : p.tables.exec = Jvm.exec) (hb : c.code = cc) (hts : ∀ w ∈ zws, w.before args s = true) (hown : s.vm.findClass R_Md = some m.cls) (hZ : ZZT G s M H locs) (hdg : decode cc pc = .ok (.getfield 60, 3)) (kk : W p l e R s m args below meth c H locs cells slots Q (F0 m (pc + 3) ls (.ref (G.1 17) :: rest))) : W p l e R s m args below meth c H locs cells slots Q (F0 m pc ls (.ref (G.1 0) :: rest)) :=
  va_get (D := G.2.2) (ci := 7) (v := .ref (G.1 17)) (C := R_Md) (T := F_Md) (N := 25) hx0 hb hts in_Md hown hZ.2.1.1 hZ.2.2.1 0 rfl rfl 22 (by decide) (hts _ wf_Md_60) (fun _ h9 => h9) rfl hdg kk
theorem fg_Md_bestMany (hx0 : p.tables.exec = Jvm.exec) (hb : c.code = cc) (hts : ∀ w ∈ zws, w.before args s = true) (hown : s.vm.findClass R_Md = some m.cls) (hZ : ZZT G s M H locs) (hdg : decode cc pc = .ok (.getfield 143, 3)) (kk : W p l e R s m args below meth c H locs cells slots Q (F0 m (pc + 3) ls (.int (M.1 0 23) :: rest))) : W p l e R s m args below meth c H locs cells slots Q (F0 m pc ls (.ref (G.1 0) :: rest)) :=
  va_get (D := G.2.2) (ci := 7) (v := .int (M.1 0 23)) (C := R_Md) (T := F_Md) (N := 25) hx0 hb hts in_Md hown hZ.2.1.1 hZ.2.2.1 0 rfl rfl 23 (by decide) (hts _ wf_Md_143) (fun _ h9 => h9) rfl hdg kk
theorem fp_Md_bestMany {v : Int32} (hx0 : p.tables.exec = Jvm.exec) (hb : c.code = cc) (hts : ∀ w ∈ zws, w.before args s = true) (hown : s.vm.findClass R_Md = some m.cls) (hZ : ZZT G s M H locs) (hdg : decode cc pc = .ok (.putfield 143, 3)) (kk : ∀ (H1 : Heap) (locs1 : List Loc), ZZT G s (wF M 0 23 v) H1 locs1 → W p l e R s m args below meth c H1 locs1 cells slots Q (F0 m (pc + 3) ls rest)) : W p l e R s m args below meth c H locs cells slots Q (F0 m pc ls (.int v :: .ref (G.1 0) :: rest)) :=
  va_put (D := G.2.2) (ci := 7) (v := .int v) (ty := .int) (C := R_Md) (T := F_Md) (N := 25) hx0 hb hts in_Md t_Md t_Md_ok n_Md hown hZ.2.1.1 hZ.2.2.1 (wlDT hZ.1 M s.heap.size) hZ.2.2.2 0 rfl rfl 23 (by decide) (hts _ wf_Md_143) (fun _ h9 => h9) rfl (by decide +kernel) rfl rfl (Nat.le_of_ble_eq_true rfl) hdg (fun H1 locs1 hP _ hS => kk H1 locs1 ⟨hZ.1, hZ.2.1, hP, hS⟩)
theorem fg_Md_bestSum (hx0 : p.tables.exec = Jvm.exec) (hb : c.code = cc) (hts : ∀ w ∈ zws, w.before args s = true) (hown : s.vm.findClass R_Md = some m.cls) (hZ : ZZT G s M H locs) (hdg : decode cc pc = .ok (.getfield 146, 3)) (kk : W p l e R s m args below meth c H locs cells slots Q (F0 m (pc + 3) ls (.int (M.1 0 24) :: rest))) : W p l e R s m args below meth c H locs cells slots Q (F0 m pc ls (.ref (G.1 0) :: rest)) :=
  va_get (D := G.2.2) (ci := 7) (v := .int (M.1 0 24)) (C := R_Md) (T := F_Md) (N := 25) hx0 hb hts in_Md hown hZ.2.1.1 hZ.2.2.1 0 rfl rfl 24 (by decide) (hts _ wf_Md_146) (fun _ h9 => h9) rfl hdg kk
theorem fp_Md_bestSum {v : Int32} (hx0 : p.tables.exec = Jvm.exec) (hb : c.code = cc) (hts : ∀ w ∈ zws, w.before args s = true) (hown : s.vm.findClass R_Md = some m.cls) (hZ : ZZT G s M H locs) (hdg : decode cc pc = .ok (.putfield 146, 3)) (kk : ∀ (H1 : Heap) (locs1 : List Loc), ZZT G s (wF M 0 24 v) H1 locs1 → W p l e R s m args below meth c H1 locs1 cells slots Q (F0 m (pc + 3) ls rest)) : W p l e R s m args below meth c H locs cells slots Q (F0 m pc ls (.int v :: .ref (G.1 0) :: rest)) :=
  va_put (D := G.2.2) (ci := 7) (v := .int v) (ty := .int) (C := R_Md) (T := F_Md) (N := 25) hx0 hb hts in_Md t_Md t_Md_ok n_Md hown hZ.2.1.1 hZ.2.2.1 (wlDT hZ.1 M s.heap.size) hZ.2.2.2 0 rfl rfl 24 (by decide) (hts _ wf_Md_146) (fun _ h9 => h9) rfl (by decide +kernel) rfl rfl (Nat.le_of_ble_eq_true rfl) hdg (fun H1 locs1 hP _ hS => kk H1 locs1 ⟨hZ.1, hZ.2.1, hP, hS⟩)
end ZFT
section ZAC
variable {p : Program} {l : Launch} {e : Env} {R : Room} {s : State} {m : MethodId} {args : Array Value} {below : List Frame} {meth : Method} {c : Code} {H : Heap} {locs : List Loc} {cells slots : Nat} {Q : State → Prop}
variable {cc : ByteArray} {pc nL : Nat} {ls : Array Slot} {rest : List Value} {G : zG} {M : Mem}
theorem z_aaload_C11 {i : Int32} (hx0 : p.tables.exec = Jvm.exec) (hb : c.code = cc) (hZ : ZZC G s M H locs) (hi : inb i 5 = true) (hdg : decode cc pc = .ok (.aaload, 1)) (kk : W p l e R s m args below meth c H locs cells slots Q (F0 m (pc + 1) ls (.ref (G.1 (12 + Int32.toNatClampNeg i)) :: rest))) : W p l e R s m args below meth c H locs cells slots Q (F0 m pc ls (.int i :: .ref (G.1 11) :: rest)) := by
  have hin := inb_in hi
  have hlt : i.toNatClampNeg < 5 := Nat.not_le.mp fun q => hin (Or.inr q)
  exact W.aald (v := .ref (G.1 (12 + Int32.toNatClampNeg i))) (ty := .array .int) hx0 hb (hZ.2.2.1 11 _ rfl) ((hZ.2.1.1.2 3 _ rfl).1 5 (fun j => va_rf (some (G.1 (12 + j))))) rfl (fun q => by cases q) (by show ¬ (i < 0 ∨ (arrV _ _ _).slots.size ≤ _); rw [arrV_size]; exact hin) (by show (arrV _ _ _).slots[_]? = _; rw [arrV_read _ _ hlt]; rfl) rfl rfl hdg kk
theorem z_aaload_C26 {i : Int32} (hx0 : p.tables.exec = Jvm.exec) (hb : c.code = cc) (hZ : ZZC G s M H locs) (hi : inb i 6 = true) (hdg : decode cc pc = .ok (.aaload, 1)) (kk : W p l e R s m args below meth c H locs cells slots Q (F0 m (pc + 1) ls (.ref (G.1 (27 + Int32.toNatClampNeg i)) :: rest))) : W p l e R s m args below meth c H locs cells slots Q (F0 m pc ls (.int i :: .ref (G.1 26) :: rest)) := by
  have hin := inb_in hi
  have hlt : i.toNatClampNeg < 6 := Nat.not_le.mp fun q => hin (Or.inr q)
  exact W.aald (v := .ref (G.1 (27 + Int32.toNatClampNeg i))) (ty := .array .int) hx0 hb (hZ.2.2.1 26 _ rfl) ((hZ.2.1.1.2 3 _ rfl).1 6 (fun j => va_rf (some (G.1 (27 + j))))) rfl (fun q => by cases q) (by show ¬ (i < 0 ∨ (arrV _ _ _).slots.size ≤ _); rw [arrV_size]; exact hin) (by show (arrV _ _ _).slots[_]? = _; rw [arrV_read _ _ hlt]; rfl) rfl rfl hdg kk
end ZAC
section ZCC
variable {p : Program} {l : Launch} {e : Env} {R : Room} {s : State} {m : MethodId} {args : Array Value} {below : List Frame} {meth : Method} {c : Code} {H : Heap} {locs : List Loc} {cells slots : Nat} {Q : State → Prop}
variable {cc : ByteArray} {pc nL : Nat} {ls : Array Slot} {rest : List Value} {G : zG} {M : Mem}
theorem k_Ln_Ln_addNode {r : Int32} {rm : Room} {M2 : Mem} (As : List Value) (hx0 : p.tables.exec = Jvm.exec) (hb : c.code = cc) (hml : c.maxLocals = nL) (hts : ∀ w ∈ zws, w.before args s = true) (hown : s.vm.findClass R_Ln = some m.cls) (hM : MetZC l G y_Ln_addNode (Cond.code y_Ln_addNode b_Ln_addNode 5 (some .int) :: zws) rm (.ref (G.1 1) :: As) M (some (.int r)) M2) (hZ : ZZC G s M H locs) (hrc : rm.cells = 0) (hrs : rm.slots = 0) (hR : rm.frames + 1 ≤ R.frames ∧ 8 + (5 + 11) + rm.locals ≤ R.locals) (hls : ls.size = nL) (hAs : As.length = 4) (hW : (rest.map fun v => v.category).sum ≤ 8) (hdg : decode cc pc = .ok (.invokevirtual 40, 3)) (kk : ∀ (H1 : Heap) (locs1 : List Loc), ZZC G s M2 H1 locs1 → W p l e R s m args below meth c H1 locs1 0 0 Q (F0 m (pc + 3) ls (.int r :: rest))) : W p l e R s m args below meth c H locs 0 0 Q (F0 m pc ls (As.reverse ++ .ref (G.1 1) :: rest)) :=
  z_runC (va_runV (As := As) (rest := rest) ⟨hx0, hb, hml, hown, hts⟩ (hM H.size) ⟨zcB hts wc_Ln_addNode wini_Ln wm_Ln_40 (by decide +kernel) hrc hrs hR, hts _ wi_Ln_addNode, hts _ ws_Ln_addNode⟩ ⟨zP_blindC, va_recv hZ.2.1.1 hZ.2.2.1 (ci := 0) (q0 := 1) rfl rfl, zP_atC hZ⟩ rfl hAs hls rfl (lv_room hW) hdg ⟨Nat.zero_le _, Nat.zero_le _⟩) hZ kk
theorem k_Ln_Ln_givenBy {r : Int32} {rm : Room} {M2 : Mem} (As : List Value) (hx0 : p.tables.exec = Jvm.exec) (hb : c.code = cc) (hml : c.maxLocals = nL) (hts : ∀ w ∈ zws, w.before args s = true) (hown : s.vm.findClass R_Ln = some m.cls) (hM : MetZC l G y_Ln_givenBy (Cond.code y_Ln_givenBy b_Ln_givenBy 6 (some .int) :: zws) rm (.ref (G.1 1) :: As) M (some (.int r)) M2) (hZ : ZZC G s M H locs) (hrc : rm.cells = 0) (hrs : rm.slots = 0) (hR : rm.frames + 1 ≤ R.frames ∧ 8 + (6 + 11) + rm.locals ≤ R.locals) (hls : ls.size = nL) (hAs : As.length = 2) (hW : (rest.map fun v => v.category).sum ≤ 8) (hdg : decode cc pc = .ok (.invokevirtual 44, 3)) (kk : ∀ (H1 : Heap) (locs1 : List Loc), ZZC G s M2 H1 locs1 → W p l e R s m args below meth c H1 locs1 0 0 Q (F0 m (pc + 3) ls (.int r :: rest))) : W p l e R s m args below meth c H locs 0 0 Q (F0 m pc ls (As.reverse ++ .ref (G.1 1) :: rest)) :=
  z_runC (va_runV (As := As) (rest := rest) ⟨hx0, hb, hml, hown, hts⟩ (hM H.size) ⟨zcB hts wc_Ln_givenBy wini_Ln wm_Ln_44 (by decide +kernel) hrc hrs hR, hts _ wi_Ln_givenBy, hts _ ws_Ln_givenBy⟩ ⟨zP_blindC, va_recv hZ.2.1.1 hZ.2.2.1 (ci := 0) (q0 := 1) rfl rfl, zP_atC hZ⟩ rfl hAs hls rfl (lv_room hW) hdg ⟨Nat.zero_le _, Nat.zero_le _⟩) hZ kk
theorem k_Ln_Ln_peakOf {r : Int32} {rm : Room} {M2 : Mem} (As : List Value) (hx0 : p.tables.exec = Jvm.exec) (hb : c.code = cc) (hml : c.maxLocals = nL) (hts : ∀ w ∈ zws, w.before args s = true) (hown : s.vm.findClass R_Ln = some m.cls) (hM : MetZC l G y_Ln_peakOf (Cond.code y_Ln_peakOf b_Ln_peakOf 5 (some .int) :: zws) rm (.ref (G.1 1) :: As) M (some (.int r)) M2) (hZ : ZZC G s M H locs) (hrc : rm.cells = 0) (hrs : rm.slots = 0) (hR : rm.frames + 1 ≤ R.frames ∧ 8 + (5 + 11) + rm.locals ≤ R.locals) (hls : ls.size = nL) (hAs : As.length = 3) (hW : (rest.map fun v => v.category).sum ≤ 8) (hdg : decode cc pc = .ok (.invokevirtual 48, 3)) (kk : ∀ (H1 : Heap) (locs1 : List Loc), ZZC G s M2 H1 locs1 → W p l e R s m args below meth c H1 locs1 0 0 Q (F0 m (pc + 3) ls (.int r :: rest))) : W p l e R s m args below meth c H locs 0 0 Q (F0 m pc ls (As.reverse ++ .ref (G.1 1) :: rest)) :=
  z_runC (va_runV (As := As) (rest := rest) ⟨hx0, hb, hml, hown, hts⟩ (hM H.size) ⟨zcB hts wc_Ln_peakOf wini_Ln wm_Ln_48 (by decide +kernel) hrc hrs hR, hts _ wi_Ln_peakOf, hts _ ws_Ln_peakOf⟩ ⟨zP_blindC, va_recv hZ.2.1.1 hZ.2.2.1 (ci := 0) (q0 := 1) rfl rfl, zP_atC hZ⟩ rfl hAs hls rfl (lv_room hW) hdg ⟨Nat.zero_le _, Nat.zero_le _⟩) hZ kk
theorem k_Rw_Rw_empty {rm : Room} {M2 : Mem} (As : List Value) (hx0 : p.tables.exec = Jvm.exec) (hb : c.code = cc) (hml : c.maxLocals = nL) (hts : ∀ w ∈ zws, w.before args s = true) (hown : s.vm.findClass R_Rw = some m.cls) (hM : MetZC l G y_Rw_empty (Cond.code y_Rw_empty b_Rw_empty 2 none :: zws) rm (As) M none M2) (hZ : ZZC G s M H locs) (hrc : rm.cells = 0) (hrs : rm.slots = 0) (hR : rm.frames + 1 ≤ R.frames ∧ 8 + (2 + 11) + rm.locals ≤ R.locals) (hls : ls.size = nL) (hAs : As.length = 1) (hW : (rest.map fun v => v.category).sum ≤ 8) (hdg : decode cc pc = .ok (.invokestatic 24, 3)) (kk : ∀ (H1 : Heap) (locs1 : List Loc), ZZC G s M2 H1 locs1 → W p l e R s m args below meth c H1 locs1 0 0 Q (F0 m (pc + 3) ls rest)) : W p l e R s m args below meth c H locs 0 0 Q (F0 m pc ls (As.reverse ++ rest)) :=
  z_runC (va_runS (As := As) (rest := rest) ⟨hx0, hb, hml, hown, hts⟩ (hM H.size) ⟨zcB hts wc_Rw_empty wini_Rw wm_Rw_24 (by decide +kernel) hrc hrs hR, hts _ wst_Rw_empty⟩ ⟨zP_blindC, zP_atC hZ⟩ rfl hAs hls rfl (lv_room hW) hdg ⟨Nat.zero_le _, Nat.zero_le _⟩) hZ kk
theorem k_Gr_Gr_there {r : Int32} {rm : Room} {M2 : Mem} (As : List Value) (hx0 : p.tables.exec = Jvm.exec) (hb : c.code = cc) (hml : c.maxLocals = nL) (hts : ∀ w ∈ zws, w.before args s = true) (hown : s.vm.findClass R_Gr = some m.cls) (hM : MetZC l G y_Gr_there (Cond.code y_Gr_there b_Gr_there 3 (some .int) :: zws) rm (.ref (G.1 17) :: As) M (some (.int r)) M2) (hZ : ZZC G s M H locs) (hrc : rm.cells = 0) (hrs : rm.slots = 0) (hR : rm.frames + 1 ≤ R.frames ∧ 8 + (3 + 11) + rm.locals ≤ R.locals) (hls : ls.size = nL) (hAs : As.length = 0) (hW : (rest.map fun v => v.category).sum ≤ 8) (hdg : decode cc pc = .ok (.invokevirtual 22, 3)) (kk : ∀ (H1 : Heap) (locs1 : List Loc), ZZC G s M2 H1 locs1 → W p l e R s m args below meth c H1 locs1 0 0 Q (F0 m (pc + 3) ls (.int r :: rest))) : W p l e R s m args below meth c H locs 0 0 Q (F0 m pc ls (As.reverse ++ .ref (G.1 17) :: rest)) :=
  z_runC (va_runV (As := As) (rest := rest) ⟨hx0, hb, hml, hown, hts⟩ (hM H.size) ⟨zcB hts wc_Gr_there wini_Gr wm_Gr_22 (by decide +kernel) hrc hrs hR, hts _ wi_Gr_there, hts _ ws_Gr_there⟩ ⟨zP_blindC, va_recv hZ.2.1.1 hZ.2.2.1 (ci := 2) (q0 := 17) rfl rfl, zP_atC hZ⟩ rfl hAs hls rfl (lv_room hW) hdg ⟨Nat.zero_le _, Nat.zero_le _⟩) hZ kk
theorem k_Gr_In_bitCount {r : Int32} {rm : Room} {M2 : Mem} (As : List Value) (hx0 : p.tables.exec = Jvm.exec) (hb : c.code = cc) (hml : c.maxLocals = nL) (hts : ∀ w ∈ zws, w.before args s = true) (hown : s.vm.findClass R_Gr = some m.cls) (hM : MetZC l G y_In_bitCount (Cond.code y_In_bitCount b_In_bitCount 1 (some .int) :: zws) rm (As) M (some (.int r)) M2) (hZ : ZZC G s M H locs) (hrc : rm.cells = 0) (hrs : rm.slots = 0) (hR : rm.frames + 1 ≤ R.frames ∧ 8 + (1 + 11) + rm.locals ≤ R.locals) (hls : ls.size = nL) (hAs : As.length = 1) (hW : (rest.map fun v => v.category).sum ≤ 8) (hdg : decode cc pc = .ok (.invokestatic 26, 3)) (kk : ∀ (H1 : Heap) (locs1 : List Loc), ZZC G s M2 H1 locs1 → W p l e R s m args below meth c H1 locs1 0 0 Q (F0 m (pc + 3) ls (.int r :: rest))) : W p l e R s m args below meth c H locs 0 0 Q (F0 m pc ls (As.reverse ++ rest)) :=
  z_runC (va_runS (As := As) (rest := rest) ⟨hx0, hb, hml, hown, hts⟩ (hM H.size) ⟨zcB hts wc_In_bitCount wini_In wm_Gr_26 (by decide +kernel) hrc hrs hR, hts _ wst_In_bitCount⟩ ⟨zP_blindC, zP_atC hZ⟩ rfl hAs hls rfl (lv_room hW) hdg ⟨Nat.zero_le _, Nat.zero_le _⟩) hZ kk
theorem k_Or_Or_lineUp {rm : Room} {M2 : Mem} (As : List Value) (hx0 : p.tables.exec = Jvm.exec) (hb : c.code = cc) (hml : c.maxLocals = nL) (hts : ∀ w ∈ zws, w.before args s = true) (hown : s.vm.findClass R_Or = some m.cls) (hM : MetZC l G y_Or_lineUp (Cond.code y_Or_lineUp b_Or_lineUp 3 none :: zws) rm (.ref (G.1 22) :: As) M none M2) (hZ : ZZC G s M H locs) (hrc : rm.cells = 0) (hrs : rm.slots = 0) (hR : rm.frames + 1 ≤ R.frames ∧ 8 + (3 + 11) + rm.locals ≤ R.locals) (hls : ls.size = nL) (hAs : As.length = 0) (hW : (rest.map fun v => v.category).sum ≤ 8) (hdg : decode cc pc = .ok (.invokevirtual 26, 3)) (kk : ∀ (H1 : Heap) (locs1 : List Loc), ZZC G s M2 H1 locs1 → W p l e R s m args below meth c H1 locs1 0 0 Q (F0 m (pc + 3) ls rest)) : W p l e R s m args below meth c H locs 0 0 Q (F0 m pc ls (As.reverse ++ .ref (G.1 22) :: rest)) :=
  z_runC (va_runV (As := As) (rest := rest) ⟨hx0, hb, hml, hown, hts⟩ (hM H.size) ⟨zcB hts wc_Or_lineUp wini_Or wm_Or_26 (by decide +kernel) hrc hrs hR, hts _ wi_Or_lineUp, hts _ ws_Or_lineUp⟩ ⟨zP_blindC, va_recv hZ.2.1.1 hZ.2.2.1 (ci := 3) (q0 := 22) rfl rfl, zP_atC hZ⟩ rfl hAs hls rfl (lv_room hW) hdg ⟨Nat.zero_le _, Nat.zero_le _⟩) hZ kk
theorem k_Or_Or_below {r : Int32} {rm : Room} {M2 : Mem} (As : List Value) (hx0 : p.tables.exec = Jvm.exec) (hb : c.code = cc) (hml : c.maxLocals = nL) (hts : ∀ w ∈ zws, w.before args s = true) (hown : s.vm.findClass R_Or = some m.cls) (hM : MetZC l G y_Or_below (Cond.code y_Or_below b_Or_below 2 (some .int) :: zws) rm (.ref (G.1 22) :: As) M (some (.int r)) M2) (hZ : ZZC G s M H locs) (hrc : rm.cells = 0) (hrs : rm.slots = 0) (hR : rm.frames + 1 ≤ R.frames ∧ 8 + (2 + 11) + rm.locals ≤ R.locals) (hls : ls.size = nL) (hAs : As.length = 1) (hW : (rest.map fun v => v.category).sum ≤ 8) (hdg : decode cc pc = .ok (.invokevirtual 29, 3)) (kk : ∀ (H1 : Heap) (locs1 : List Loc), ZZC G s M2 H1 locs1 → W p l e R s m args below meth c H1 locs1 0 0 Q (F0 m (pc + 3) ls (.int r :: rest))) : W p l e R s m args below meth c H locs 0 0 Q (F0 m pc ls (As.reverse ++ .ref (G.1 22) :: rest)) :=
  z_runC (va_runV (As := As) (rest := rest) ⟨hx0, hb, hml, hown, hts⟩ (hM H.size) ⟨zcB hts wc_Or_below wini_Or wm_Or_29 (by decide +kernel) hrc hrs hR, hts _ wi_Or_below, hts _ ws_Or_below⟩ ⟨zP_blindC, va_recv hZ.2.1.1 hZ.2.2.1 (ci := 3) (q0 := 22) rfl rfl, zP_atC hZ⟩ rfl hAs hls rfl (lv_room hW) hdg ⟨Nat.zero_le _, Nat.zero_le _⟩) hZ kk
theorem k_Or_Gr_there {r : Int32} {rm : Room} {M2 : Mem} (As : List Value) (hx0 : p.tables.exec = Jvm.exec) (hb : c.code = cc) (hml : c.maxLocals = nL) (hts : ∀ w ∈ zws, w.before args s = true) (hown : s.vm.findClass R_Or = some m.cls) (hM : MetZC l G y_Gr_there (Cond.code y_Gr_there b_Gr_there 3 (some .int) :: zws) rm (.ref (G.1 17) :: As) M (some (.int r)) M2) (hZ : ZZC G s M H locs) (hrc : rm.cells = 0) (hrs : rm.slots = 0) (hR : rm.frames + 1 ≤ R.frames ∧ 8 + (3 + 11) + rm.locals ≤ R.locals) (hls : ls.size = nL) (hAs : As.length = 0) (hW : (rest.map fun v => v.category).sum ≤ 8) (hdg : decode cc pc = .ok (.invokevirtual 33, 3)) (kk : ∀ (H1 : Heap) (locs1 : List Loc), ZZC G s M2 H1 locs1 → W p l e R s m args below meth c H1 locs1 0 0 Q (F0 m (pc + 3) ls (.int r :: rest))) : W p l e R s m args below meth c H locs 0 0 Q (F0 m pc ls (As.reverse ++ .ref (G.1 17) :: rest)) :=
  z_runC (va_runV (As := As) (rest := rest) ⟨hx0, hb, hml, hown, hts⟩ (hM H.size) ⟨zcB hts wc_Gr_there wini_Gr wm_Or_33 (by decide +kernel) hrc hrs hR, hts _ wi_Gr_there, hts _ ws_Gr_there⟩ ⟨zP_blindC, va_recv hZ.2.1.1 hZ.2.2.1 (ci := 2) (q0 := 17) rfl rfl, zP_atC hZ⟩ rfl hAs hls rfl (lv_room hW) hdg ⟨Nat.zero_le _, Nat.zero_le _⟩) hZ kk
theorem k_Me_Gr_there {r : Int32} {rm : Room} {M2 : Mem} (As : List Value) (hx0 : p.tables.exec = Jvm.exec) (hb : c.code = cc) (hml : c.maxLocals = nL) (hts : ∀ w ∈ zws, w.before args s = true) (hown : s.vm.findClass R_Me = some m.cls) (hM : MetZC l G y_Gr_there (Cond.code y_Gr_there b_Gr_there 3 (some .int) :: zws) rm (.ref (G.1 17) :: As) M (some (.int r)) M2) (hZ : ZZC G s M H locs) (hrc : rm.cells = 0) (hrs : rm.slots = 0) (hR : rm.frames + 1 ≤ R.frames ∧ 8 + (3 + 11) + rm.locals ≤ R.locals) (hls : ls.size = nL) (hAs : As.length = 0) (hW : (rest.map fun v => v.category).sum ≤ 8) (hdg : decode cc pc = .ok (.invokevirtual 64, 3)) (kk : ∀ (H1 : Heap) (locs1 : List Loc), ZZC G s M2 H1 locs1 → W p l e R s m args below meth c H1 locs1 0 0 Q (F0 m (pc + 3) ls (.int r :: rest))) : W p l e R s m args below meth c H locs 0 0 Q (F0 m pc ls (As.reverse ++ .ref (G.1 17) :: rest)) :=
  z_runC (va_runV (As := As) (rest := rest) ⟨hx0, hb, hml, hown, hts⟩ (hM H.size) ⟨zcB hts wc_Gr_there wini_Gr wm_Me_64 (by decide +kernel) hrc hrs hR, hts _ wi_Gr_there, hts _ ws_Gr_there⟩ ⟨zP_blindC, va_recv hZ.2.1.1 hZ.2.2.1 (ci := 2) (q0 := 17) rfl rfl, zP_atC hZ⟩ rfl hAs hls rfl (lv_room hW) hdg ⟨Nat.zero_le _, Nat.zero_le _⟩) hZ kk
theorem k_Me_Me_shareSum {r : Int64} {rm : Room} {M2 : Mem} (As : List Value) (hx0 : p.tables.exec = Jvm.exec) (hb : c.code = cc) (hml : c.maxLocals = nL) (hts : ∀ w ∈ zws, w.before args s = true) (hown : s.vm.findClass R_Me = some m.cls) (hM : MetZC l G y_Me_shareSum (Cond.code y_Me_shareSum b_Me_shareSum 11 (some .long) :: zws) rm (.ref (G.1 19) :: As) M (some (.long r)) M2) (hZ : ZZC G s M H locs) (hrc : rm.cells = 0) (hrs : rm.slots = 0) (hR : rm.frames + 1 ≤ R.frames ∧ 8 + (11 + 11) + rm.locals ≤ R.locals) (hls : ls.size = nL) (hAs : As.length = 2) (hW : (rest.map fun v => v.category).sum ≤ 8) (hdg : decode cc pc = .ok (.invokevirtual 103, 3)) (kk : ∀ (H1 : Heap) (locs1 : List Loc), ZZC G s M2 H1 locs1 → W p l e R s m args below meth c H1 locs1 0 0 Q (F0 m (pc + 3) ls (.long r :: rest))) : W p l e R s m args below meth c H locs 0 0 Q (F0 m pc ls (As.reverse ++ .ref (G.1 19) :: rest)) :=
  z_runC (va_runV (As := As) (rest := rest) ⟨hx0, hb, hml, hown, hts⟩ (hM H.size) ⟨zcB hts wc_Me_shareSum wini_Me wm_Me_103 (by decide +kernel) hrc hrs hR, hts _ wi_Me_shareSum, hts _ ws_Me_shareSum⟩ ⟨zP_blindC, va_recv hZ.2.1.1 hZ.2.2.1 (ci := 4) (q0 := 19) rfl rfl, zP_atC hZ⟩ rfl hAs hls rfl (lv_room hW) hdg ⟨Nat.zero_le _, Nat.zero_le _⟩) hZ kk
theorem k_Me_Gr_columnsOf {r : Int32} {rm : Room} {M2 : Mem} (As : List Value) (hx0 : p.tables.exec = Jvm.exec) (hb : c.code = cc) (hml : c.maxLocals = nL) (hts : ∀ w ∈ zws, w.before args s = true) (hown : s.vm.findClass R_Me = some m.cls) (hM : MetZC l G y_Gr_columnsOf (Cond.code y_Gr_columnsOf b_Gr_columnsOf 4 (some .int) :: zws) rm (.ref (G.1 17) :: As) M (some (.int r)) M2) (hZ : ZZC G s M H locs) (hrc : rm.cells = 0) (hrs : rm.slots = 0) (hR : rm.frames + 1 ≤ R.frames ∧ 8 + (4 + 11) + rm.locals ≤ R.locals) (hls : ls.size = nL) (hAs : As.length = 1) (hW : (rest.map fun v => v.category).sum ≤ 8) (hdg : decode cc pc = .ok (.invokevirtual 69, 3)) (kk : ∀ (H1 : Heap) (locs1 : List Loc), ZZC G s M2 H1 locs1 → W p l e R s m args below meth c H1 locs1 0 0 Q (F0 m (pc + 3) ls (.int r :: rest))) : W p l e R s m args below meth c H locs 0 0 Q (F0 m pc ls (As.reverse ++ .ref (G.1 17) :: rest)) :=
  z_runC (va_runV (As := As) (rest := rest) ⟨hx0, hb, hml, hown, hts⟩ (hM H.size) ⟨zcB hts wc_Gr_columnsOf wini_Gr wm_Me_69 (by decide +kernel) hrc hrs hR, hts _ wi_Gr_columnsOf, hts _ ws_Gr_columnsOf⟩ ⟨zP_blindC, va_recv hZ.2.1.1 hZ.2.2.1 (ci := 2) (q0 := 17) rfl rfl, zP_atC hZ⟩ rfl hAs hls rfl (lv_room hW) hdg ⟨Nat.zero_le _, Nat.zero_le _⟩) hZ kk
theorem k_Me_In_bitCount {r : Int32} {rm : Room} {M2 : Mem} (As : List Value) (hx0 : p.tables.exec = Jvm.exec) (hb : c.code = cc) (hml : c.maxLocals = nL) (hts : ∀ w ∈ zws, w.before args s = true) (hown : s.vm.findClass R_Me = some m.cls) (hM : MetZC l G y_In_bitCount (Cond.code y_In_bitCount b_In_bitCount 1 (some .int) :: zws) rm (As) M (some (.int r)) M2) (hZ : ZZC G s M H locs) (hrc : rm.cells = 0) (hrs : rm.slots = 0) (hR : rm.frames + 1 ≤ R.frames ∧ 8 + (1 + 11) + rm.locals ≤ R.locals) (hls : ls.size = nL) (hAs : As.length = 1) (hW : (rest.map fun v => v.category).sum ≤ 8) (hdg : decode cc pc = .ok (.invokestatic 73, 3)) (kk : ∀ (H1 : Heap) (locs1 : List Loc), ZZC G s M2 H1 locs1 → W p l e R s m args below meth c H1 locs1 0 0 Q (F0 m (pc + 3) ls (.int r :: rest))) : W p l e R s m args below meth c H locs 0 0 Q (F0 m pc ls (As.reverse ++ rest)) :=
  z_runC (va_runS (As := As) (rest := rest) ⟨hx0, hb, hml, hown, hts⟩ (hM H.size) ⟨zcB hts wc_In_bitCount wini_In wm_Me_73 (by decide +kernel) hrc hrs hR, hts _ wst_In_bitCount⟩ ⟨zP_blindC, zP_atC hZ⟩ rfl hAs hls rfl (lv_room hW) hdg ⟨Nat.zero_le _, Nat.zero_le _⟩) hZ kk
theorem k_Me_Me_ordersAround {r : Int64} {rm : Room} {M2 : Mem} (As : List Value) (hx0 : p.tables.exec = Jvm.exec) (hb : c.code = cc) (hml : c.maxLocals = nL) (hts : ∀ w ∈ zws, w.before args s = true) (hown : s.vm.findClass R_Me = some m.cls) (hM : MetZC l G y_Me_ordersAround (Cond.code y_Me_ordersAround b_Me_ordersAround 3 (some .long) :: zws) rm (As) M (some (.long r)) M2) (hZ : ZZC G s M H locs) (hrc : rm.cells = 0) (hrs : rm.slots = 0) (hR : rm.frames + 1 ≤ R.frames ∧ 8 + (3 + 11) + rm.locals ≤ R.locals) (hls : ls.size = nL) (hAs : As.length = 2) (hW : (rest.map fun v => v.category).sum ≤ 8) (hdg : decode cc pc = .ok (.invokestatic 78, 3)) (kk : ∀ (H1 : Heap) (locs1 : List Loc), ZZC G s M2 H1 locs1 → W p l e R s m args below meth c H1 locs1 0 0 Q (F0 m (pc + 3) ls (.long r :: rest))) : W p l e R s m args below meth c H locs 0 0 Q (F0 m pc ls (As.reverse ++ rest)) :=
  z_runC (va_runS (As := As) (rest := rest) ⟨hx0, hb, hml, hown, hts⟩ (hM H.size) ⟨zcB hts wc_Me_ordersAround wini_Me wm_Me_78 (by decide +kernel) hrc hrs hR, hts _ wst_Me_ordersAround⟩ ⟨zP_blindC, zP_atC hZ⟩ rfl hAs hls rfl (lv_room hW) hdg ⟨Nat.zero_le _, Nat.zero_le _⟩) hZ kk
theorem k_Me_Me_brought {r : Int64} {rm : Room} {M2 : Mem} (As : List Value) (hx0 : p.tables.exec = Jvm.exec) (hb : c.code = cc) (hml : c.maxLocals = nL) (hts : ∀ w ∈ zws, w.before args s = true) (hown : s.vm.findClass R_Me = some m.cls) (hM : MetZC l G y_Me_brought (Cond.code y_Me_brought b_Me_brought 3 (some .long) :: zws) rm (.ref (G.1 19) :: As) M (some (.long r)) M2) (hZ : ZZC G s M H locs) (hrc : rm.cells = 0) (hrs : rm.slots = 0) (hR : rm.frames + 1 ≤ R.frames ∧ 8 + (3 + 11) + rm.locals ≤ R.locals) (hls : ls.size = nL) (hAs : As.length = 2) (hW : (rest.map fun v => v.category).sum ≤ 8) (hdg : decode cc pc = .ok (.invokevirtual 82, 3)) (kk : ∀ (H1 : Heap) (locs1 : List Loc), ZZC G s M2 H1 locs1 → W p l e R s m args below meth c H1 locs1 0 0 Q (F0 m (pc + 3) ls (.long r :: rest))) : W p l e R s m args below meth c H locs 0 0 Q (F0 m pc ls (As.reverse ++ .ref (G.1 19) :: rest)) :=
  z_runC (va_runV (As := As) (rest := rest) ⟨hx0, hb, hml, hown, hts⟩ (hM H.size) ⟨zcB hts wc_Me_brought wini_Me wm_Me_82 (by decide +kernel) hrc hrs hR, hts _ wi_Me_brought, hts _ ws_Me_brought⟩ ⟨zP_blindC, va_recv hZ.2.1.1 hZ.2.2.1 (ci := 4) (q0 := 19) rfl rfl, zP_atC hZ⟩ rfl hAs hls rfl (lv_room hW) hdg ⟨Nat.zero_le _, Nat.zero_le _⟩) hZ kk
theorem k_Me_ES_factorial {r : Int64} {rm : Room} {M2 : Mem} (As : List Value) (hx0 : p.tables.exec = Jvm.exec) (hb : c.code = cc) (hml : c.maxLocals = nL) (hts : ∀ w ∈ zws, w.before args s = true) (hown : s.vm.findClass R_Me = some m.cls) (hM : MetZC l G y_ES_factorial (Cond.code y_ES_factorial b_ES_factorial 4 (some .long) :: zws) rm (As) M (some (.long r)) M2) (hZ : ZZC G s M H locs) (hrc : rm.cells = 0) (hrs : rm.slots = 0) (hR : rm.frames + 1 ≤ R.frames ∧ 8 + (4 + 11) + rm.locals ≤ R.locals) (hls : ls.size = nL) (hAs : As.length = 1) (hW : (rest.map fun v => v.category).sum ≤ 8) (hdg : decode cc pc = .ok (.invokestatic 86, 3)) (kk : ∀ (H1 : Heap) (locs1 : List Loc), ZZC G s M2 H1 locs1 → W p l e R s m args below meth c H1 locs1 0 0 Q (F0 m (pc + 3) ls (.long r :: rest))) : W p l e R s m args below meth c H locs 0 0 Q (F0 m pc ls (As.reverse ++ rest)) :=
  z_runC (va_runSN (As := As) (rest := rest) ⟨hx0, hb, hml, hown, hts⟩ (hM H.size) ⟨zcN hts wc_ES_factorial wini_ES hZ.2.1.2 (by decide +kernel) hrc hrs hR, hts _ wst_ES_factorial, trivial⟩ ⟨zP_blindC, zP_atC hZ⟩ rfl hAs hls rfl (lv_room hW) hdg ⟨Nat.zero_le _, Nat.zero_le _⟩) hZ kk
theorem k_Me_Me_total {r : Int64} {rm : Room} {M2 : Mem} (As : List Value) (hx0 : p.tables.exec = Jvm.exec) (hb : c.code = cc) (hml : c.maxLocals = nL) (hts : ∀ w ∈ zws, w.before args s = true) (hown : s.vm.findClass R_Me = some m.cls) (hM : MetZC l G y_Me_total (Cond.code y_Me_total b_Me_total 5 (some .long) :: zws) rm (.ref (G.1 19) :: As) M (some (.long r)) M2) (hZ : ZZC G s M H locs) (hrc : rm.cells = 0) (hrs : rm.slots = 0) (hR : rm.frames + 1 ≤ R.frames ∧ 8 + (5 + 11) + rm.locals ≤ R.locals) (hls : ls.size = nL) (hAs : As.length = 1) (hW : (rest.map fun v => v.category).sum ≤ 8) (hdg : decode cc pc = .ok (.invokevirtual 60, 3)) (kk : ∀ (H1 : Heap) (locs1 : List Loc), ZZC G s M2 H1 locs1 → W p l e R s m args below meth c H1 locs1 0 0 Q (F0 m (pc + 3) ls (.long r :: rest))) : W p l e R s m args below meth c H locs 0 0 Q (F0 m pc ls (As.reverse ++ .ref (G.1 19) :: rest)) :=
  z_runC (va_runV (As := As) (rest := rest) ⟨hx0, hb, hml, hown, hts⟩ (hM H.size) ⟨zcB hts wc_Me_total wini_Me wm_Me_60 (by decide +kernel) hrc hrs hR, hts _ wi_Me_total, hts _ ws_Me_total⟩ ⟨zP_blindC, va_recv hZ.2.1.1 hZ.2.2.1 (ci := 4) (q0 := 19) rfl rfl, zP_atC hZ⟩ rfl hAs hls rfl (lv_room hW) hdg ⟨Nat.zero_le _, Nat.zero_le _⟩) hZ kk
theorem k_Me_Rw_count {r : Int32} {rm : Room} {M2 : Mem} (As : List Value) (hx0 : p.tables.exec = Jvm.exec) (hb : c.code = cc) (hml : c.maxLocals = nL) (hts : ∀ w ∈ zws, w.before args s = true) (hown : s.vm.findClass R_Me = some m.cls) (hM : MetZC l G y_Rw_count (Cond.code y_Rw_count b_Rw_count 1 (some .int) :: zws) rm (.ref (G.1 9) :: As) M (some (.int r)) M2) (hZ : ZZC G s M H locs) (hrc : rm.cells = 0) (hrs : rm.slots = 0) (hR : rm.frames + 1 ≤ R.frames ∧ 8 + (1 + 11) + rm.locals ≤ R.locals) (hls : ls.size = nL) (hAs : As.length = 0) (hW : (rest.map fun v => v.category).sum ≤ 8) (hdg : decode cc pc = .ok (.invokevirtual 40, 3)) (kk : ∀ (H1 : Heap) (locs1 : List Loc), ZZC G s M2 H1 locs1 → W p l e R s m args below meth c H1 locs1 0 0 Q (F0 m (pc + 3) ls (.int r :: rest))) : W p l e R s m args below meth c H locs 0 0 Q (F0 m pc ls (As.reverse ++ .ref (G.1 9) :: rest)) :=
  z_runC (va_runV (As := As) (rest := rest) ⟨hx0, hb, hml, hown, hts⟩ (hM H.size) ⟨zcB hts wc_Rw_count wini_Rw wm_Me_40 (by decide +kernel) hrc hrs hR, hts _ wi_Rw_count, hts _ ws_Rw_count⟩ ⟨zP_blindC, va_recv hZ.2.1.1 hZ.2.2.1 (ci := 1) (q0 := 9) rfl rfl, zP_atC hZ⟩ rfl hAs hls rfl (lv_room hW) hdg ⟨Nat.zero_le _, Nat.zero_le _⟩) hZ kk
theorem k_Me_Rw_at {r : Nat} {rm : Room} {M2 : Mem} (As : List Value) (hx0 : p.tables.exec = Jvm.exec) (hb : c.code = cc) (hml : c.maxLocals = nL) (hts : ∀ w ∈ zws, w.before args s = true) (hown : s.vm.findClass R_Me = some m.cls) (hM : MetZC l G y_Rw_at (Cond.code y_Rw_at b_Rw_at 2 (some (.array .int)) :: zws) rm (.ref (G.1 9) :: As) M (some (.ref r)) M2) (hZ : ZZC G s M H locs) (hrc : rm.cells = 0) (hrs : rm.slots = 0) (hR : rm.frames + 1 ≤ R.frames ∧ 8 + (2 + 11) + rm.locals ≤ R.locals) (hls : ls.size = nL) (hAs : As.length = 1) (hW : (rest.map fun v => v.category).sum ≤ 8) (hdg : decode cc pc = .ok (.invokevirtual 46, 3)) (kk : ∀ (H1 : Heap) (locs1 : List Loc), ZZC G s M2 H1 locs1 → W p l e R s m args below meth c H1 locs1 0 0 Q (F0 m (pc + 3) ls (.ref r :: rest))) : W p l e R s m args below meth c H locs 0 0 Q (F0 m pc ls (As.reverse ++ .ref (G.1 9) :: rest)) :=
  z_runC (va_runV (As := As) (rest := rest) ⟨hx0, hb, hml, hown, hts⟩ (hM H.size) ⟨zcB hts wc_Rw_at wini_Rw wm_Me_46 (by decide +kernel) hrc hrs hR, hts _ wi_Rw_at, hts _ ws_Rw_at⟩ ⟨zP_blindC, va_recv hZ.2.1.1 hZ.2.2.1 (ci := 1) (q0 := 9) rfl rfl, zP_atC hZ⟩ rfl hAs hls rfl (lv_room hW) hdg ⟨Nat.zero_le _, Nat.zero_le _⟩) hZ kk
theorem k_Me_Me_mix {rm : Room} {M2 : Mem} (As : List Value) (hx0 : p.tables.exec = Jvm.exec) (hb : c.code = cc) (hml : c.maxLocals = nL) (hts : ∀ w ∈ zws, w.before args s = true) (hown : s.vm.findClass R_Me = some m.cls) (hM : MetZC l G y_Me_mix (Cond.code y_Me_mix b_Me_mix 5 none :: zws) rm (.ref (G.1 19) :: As) M none M2) (hZ : ZZC G s M H locs) (hrc : rm.cells = 0) (hrs : rm.slots = 0) (hR : rm.frames + 1 ≤ R.frames ∧ 8 + (5 + 11) + rm.locals ≤ R.locals) (hls : ls.size = nL) (hAs : As.length = 3) (hW : (rest.map fun v => v.category).sum ≤ 8) (hdg : decode cc pc = .ok (.invokevirtual 50, 3)) (kk : ∀ (H1 : Heap) (locs1 : List Loc), ZZC G s M2 H1 locs1 → W p l e R s m args below meth c H1 locs1 0 0 Q (F0 m (pc + 3) ls rest)) : W p l e R s m args below meth c H locs 0 0 Q (F0 m pc ls (As.reverse ++ .ref (G.1 19) :: rest)) :=
  z_runC (va_runV (As := As) (rest := rest) ⟨hx0, hb, hml, hown, hts⟩ (hM H.size) ⟨zcB hts wc_Me_mix wini_Me wm_Me_50 (by decide +kernel) hrc hrs hR, hts _ wi_Me_mix, hts _ ws_Me_mix⟩ ⟨zP_blindC, va_recv hZ.2.1.1 hZ.2.2.1 (ci := 4) (q0 := 19) rfl rfl, zP_atC hZ⟩ rfl hAs hls rfl (lv_room hW) hdg ⟨Nat.zero_le _, Nat.zero_le _⟩) hZ kk
theorem k_Me_Ln_sumFor {r : Int32} {rm : Room} {M2 : Mem} (As : List Value) (hx0 : p.tables.exec = Jvm.exec) (hb : c.code = cc) (hml : c.maxLocals = nL) (hts : ∀ w ∈ zws, w.before args s = true) (hown : s.vm.findClass R_Me = some m.cls) (hM : MetZC l G y_Ln_sumFor (Cond.code y_Ln_sumFor b_Ln_sumFor 4 (some .int) :: zws) rm (.ref (G.1 1) :: As) M (some (.int r)) M2) (hZ : ZZC G s M H locs) (hrc : rm.cells = 0) (hrs : rm.slots = 0) (hR : rm.frames + 1 ≤ R.frames ∧ 8 + (4 + 11) + rm.locals ≤ R.locals) (hls : ls.size = nL) (hAs : As.length = 1) (hW : (rest.map fun v => v.category).sum ≤ 8) (hdg : decode cc pc = .ok (.invokevirtual 54, 3)) (kk : ∀ (H1 : Heap) (locs1 : List Loc), ZZC G s M2 H1 locs1 → W p l e R s m args below meth c H1 locs1 0 0 Q (F0 m (pc + 3) ls (.int r :: rest))) : W p l e R s m args below meth c H locs 0 0 Q (F0 m pc ls (As.reverse ++ .ref (G.1 1) :: rest)) :=
  z_runC (va_runV (As := As) (rest := rest) ⟨hx0, hb, hml, hown, hts⟩ (hM H.size) ⟨zcB hts wc_Ln_sumFor wini_Ln wm_Me_54 (by decide +kernel) hrc hrs hR, hts _ wi_Ln_sumFor, hts _ ws_Ln_sumFor⟩ ⟨zP_blindC, va_recv hZ.2.1.1 hZ.2.2.1 (ci := 0) (q0 := 1) rfl rfl, zP_atC hZ⟩ rfl hAs hls rfl (lv_room hW) hdg ⟨Nat.zero_le _, Nat.zero_le _⟩) hZ kk
theorem k_Me_Me_countAhead {r : Int32} {rm : Room} {M2 : Mem} (As : List Value) (hx0 : p.tables.exec = Jvm.exec) (hb : c.code = cc) (hml : c.maxLocals = nL) (hts : ∀ w ∈ zws, w.before args s = true) (hown : s.vm.findClass R_Me = some m.cls) (hM : MetZC l G y_Me_countAhead (Cond.code y_Me_countAhead b_Me_countAhead 7 (some .int) :: zws) rm (.ref (G.1 19) :: As) M (some (.int r)) M2) (hZ : ZZC G s M H locs) (hrc : rm.cells = 0) (hrs : rm.slots = 0) (hR : rm.frames + 1 ≤ R.frames ∧ 8 + (7 + 11) + rm.locals ≤ R.locals) (hls : ls.size = nL) (hAs : As.length = 2) (hW : (rest.map fun v => v.category).sum ≤ 8) (hdg : decode cc pc = .ok (.invokevirtual 112, 3)) (kk : ∀ (H1 : Heap) (locs1 : List Loc), ZZC G s M2 H1 locs1 → W p l e R s m args below meth c H1 locs1 0 0 Q (F0 m (pc + 3) ls (.int r :: rest))) : W p l e R s m args below meth c H locs 0 0 Q (F0 m pc ls (As.reverse ++ .ref (G.1 19) :: rest)) :=
  z_runC (va_runV (As := As) (rest := rest) ⟨hx0, hb, hml, hown, hts⟩ (hM H.size) ⟨zcB hts wc_Me_countAhead wini_Me wm_Me_112 (by decide +kernel) hrc hrs hR, hts _ wi_Me_countAhead, hts _ ws_Me_countAhead⟩ ⟨zP_blindC, va_recv hZ.2.1.1 hZ.2.2.1 (ci := 4) (q0 := 19) rfl rfl, zP_atC hZ⟩ rfl hAs hls rfl (lv_room hW) hdg ⟨Nat.zero_le _, Nat.zero_le _⟩) hZ kk
theorem k_Me_Gr_count {r : Int32} {rm : Room} {M2 : Mem} (As : List Value) (hx0 : p.tables.exec = Jvm.exec) (hb : c.code = cc) (hml : c.maxLocals = nL) (hts : ∀ w ∈ zws, w.before args s = true) (hown : s.vm.findClass R_Me = some m.cls) (hM : MetZC l G y_Gr_count (Cond.code y_Gr_count b_Gr_count 1 (some .int) :: zws) rm (.ref (G.1 17) :: As) M (some (.int r)) M2) (hZ : ZZC G s M H locs) (hrc : rm.cells = 0) (hrs : rm.slots = 0) (hR : rm.frames + 1 ≤ R.frames ∧ 8 + (1 + 11) + rm.locals ≤ R.locals) (hls : ls.size = nL) (hAs : As.length = 0) (hW : (rest.map fun v => v.category).sum ≤ 8) (hdg : decode cc pc = .ok (.invokevirtual 85, 3)) (kk : ∀ (H1 : Heap) (locs1 : List Loc), ZZC G s M2 H1 locs1 → W p l e R s m args below meth c H1 locs1 0 0 Q (F0 m (pc + 3) ls (.int r :: rest))) : W p l e R s m args below meth c H locs 0 0 Q (F0 m pc ls (As.reverse ++ .ref (G.1 17) :: rest)) :=
  z_runC (va_runV (As := As) (rest := rest) ⟨hx0, hb, hml, hown, hts⟩ (hM H.size) ⟨zcB hts wc_Gr_count wini_Gr wm_Me_85 (by decide +kernel) hrc hrs hR, hts _ wi_Gr_count, hts _ ws_Gr_count⟩ ⟨zP_blindC, va_recv hZ.2.1.1 hZ.2.2.1 (ci := 2) (q0 := 17) rfl rfl, zP_atC hZ⟩ rfl hAs hls rfl (lv_room hW) hdg ⟨Nat.zero_le _, Nat.zero_le _⟩) hZ kk
theorem k_Me_Or_start {rm : Room} {M2 : Mem} (As : List Value) (hx0 : p.tables.exec = Jvm.exec) (hb : c.code = cc) (hml : c.maxLocals = nL) (hts : ∀ w ∈ zws, w.before args s = true) (hown : s.vm.findClass R_Me = some m.cls) (hM : MetZC l G y_Or_start (Cond.code y_Or_start b_Or_start 2 none :: zws) rm (.ref (G.1 22) :: As) M none M2) (hZ : ZZC G s M H locs) (hrc : rm.cells = 0) (hrs : rm.slots = 0) (hR : rm.frames + 1 ≤ R.frames ∧ 8 + (2 + 11) + rm.locals ≤ R.locals) (hls : ls.size = nL) (hAs : As.length = 1) (hW : (rest.map fun v => v.category).sum ≤ 8) (hdg : decode cc pc = .ok (.invokevirtual 89, 3)) (kk : ∀ (H1 : Heap) (locs1 : List Loc), ZZC G s M2 H1 locs1 → W p l e R s m args below meth c H1 locs1 0 0 Q (F0 m (pc + 3) ls rest)) : W p l e R s m args below meth c H locs 0 0 Q (F0 m pc ls (As.reverse ++ .ref (G.1 22) :: rest)) :=
  z_runC (va_runV (As := As) (rest := rest) ⟨hx0, hb, hml, hown, hts⟩ (hM H.size) ⟨zcB hts wc_Or_start wini_Or wm_Me_89 (by decide +kernel) hrc hrs hR, hts _ wi_Or_start, hts _ ws_Or_start⟩ ⟨zP_blindC, va_recv hZ.2.1.1 hZ.2.2.1 (ci := 3) (q0 := 22) rfl rfl, zP_atC hZ⟩ rfl hAs hls rfl (lv_room hW) hdg ⟨Nat.zero_le _, Nat.zero_le _⟩) hZ kk
theorem k_Me_Or_drawNext {rm : Room} {M2 : Mem} (As : List Value) (hx0 : p.tables.exec = Jvm.exec) (hb : c.code = cc) (hml : c.maxLocals = nL) (hts : ∀ w ∈ zws, w.before args s = true) (hown : s.vm.findClass R_Me = some m.cls) (hM : MetZC l G y_Or_drawNext (Cond.code y_Or_drawNext b_Or_drawNext 4 none :: zws) rm (.ref (G.1 22) :: As) M none M2) (hZ : ZZC G s M H locs) (hrc : rm.cells = 0) (hrs : rm.slots = 0) (hR : rm.frames + 1 ≤ R.frames ∧ 8 + (4 + 11) + rm.locals ≤ R.locals) (hls : ls.size = nL) (hAs : As.length = 0) (hW : (rest.map fun v => v.category).sum ≤ 8) (hdg : decode cc pc = .ok (.invokevirtual 93, 3)) (kk : ∀ (H1 : Heap) (locs1 : List Loc), ZZC G s M2 H1 locs1 → W p l e R s m args below meth c H1 locs1 0 0 Q (F0 m (pc + 3) ls rest)) : W p l e R s m args below meth c H locs 0 0 Q (F0 m pc ls (As.reverse ++ .ref (G.1 22) :: rest)) :=
  z_runC (va_runV (As := As) (rest := rest) ⟨hx0, hb, hml, hown, hts⟩ (hM H.size) ⟨zcB hts wc_Or_drawNext wini_Or wm_Me_93 (by decide +kernel) hrc hrs hR, hts _ wi_Or_drawNext, hts _ ws_Or_drawNext⟩ ⟨zP_blindC, va_recv hZ.2.1.1 hZ.2.2.1 (ci := 3) (q0 := 22) rfl rfl, zP_atC hZ⟩ rfl hAs hls rfl (lv_room hW) hdg ⟨Nat.zero_le _, Nat.zero_le _⟩) hZ kk
theorem k_Me_Or_groupsBefore {r : Int32} {rm : Room} {M2 : Mem} (As : List Value) (hx0 : p.tables.exec = Jvm.exec) (hb : c.code = cc) (hml : c.maxLocals = nL) (hts : ∀ w ∈ zws, w.before args s = true) (hown : s.vm.findClass R_Me = some m.cls) (hM : MetZC l G y_Or_groupsBefore (Cond.code y_Or_groupsBefore b_Or_groupsBefore 4 (some .int) :: zws) rm (.ref (G.1 22) :: As) M (some (.int r)) M2) (hZ : ZZC G s M H locs) (hrc : rm.cells = 0) (hrs : rm.slots = 0) (hR : rm.frames + 1 ≤ R.frames ∧ 8 + (4 + 11) + rm.locals ≤ R.locals) (hls : ls.size = nL) (hAs : As.length = 1) (hW : (rest.map fun v => v.category).sum ≤ 8) (hdg : decode cc pc = .ok (.invokevirtual 96, 3)) (kk : ∀ (H1 : Heap) (locs1 : List Loc), ZZC G s M2 H1 locs1 → W p l e R s m args below meth c H1 locs1 0 0 Q (F0 m (pc + 3) ls (.int r :: rest))) : W p l e R s m args below meth c H locs 0 0 Q (F0 m pc ls (As.reverse ++ .ref (G.1 22) :: rest)) :=
  z_runC (va_runV (As := As) (rest := rest) ⟨hx0, hb, hml, hown, hts⟩ (hM H.size) ⟨zcB hts wc_Or_groupsBefore wini_Or wm_Me_96 (by decide +kernel) hrc hrs hR, hts _ wi_Or_groupsBefore, hts _ ws_Or_groupsBefore⟩ ⟨zP_blindC, va_recv hZ.2.1.1 hZ.2.2.1 (ci := 3) (q0 := 22) rfl rfl, zP_atC hZ⟩ rfl hAs hls rfl (lv_room hW) hdg ⟨Nat.zero_le _, Nat.zero_le _⟩) hZ kk
theorem k_Me_Me_sumWith {r : Int64} {rm : Room} {M2 : Mem} (As : List Value) (hx0 : p.tables.exec = Jvm.exec) (hb : c.code = cc) (hml : c.maxLocals = nL) (hts : ∀ w ∈ zws, w.before args s = true) (hown : s.vm.findClass R_Me = some m.cls) (hM : MetZC l G y_Me_sumWith (Cond.code y_Me_sumWith b_Me_sumWith 5 (some .long) :: zws) rm (.ref (G.1 19) :: As) M (some (.long r)) M2) (hZ : ZZC G s M H locs) (hrc : rm.cells = 0) (hrs : rm.slots = 0) (hR : rm.frames + 1 ≤ R.frames ∧ 8 + (5 + 11) + rm.locals ≤ R.locals) (hls : ls.size = nL) (hAs : As.length = 3) (hW : (rest.map fun v => v.category).sum ≤ 8) (hdg : decode cc pc = .ok (.invokevirtual 99, 3)) (kk : ∀ (H1 : Heap) (locs1 : List Loc), ZZC G s M2 H1 locs1 → W p l e R s m args below meth c H1 locs1 0 0 Q (F0 m (pc + 3) ls (.long r :: rest))) : W p l e R s m args below meth c H locs 0 0 Q (F0 m pc ls (As.reverse ++ .ref (G.1 19) :: rest)) :=
  z_runC (va_runV (As := As) (rest := rest) ⟨hx0, hb, hml, hown, hts⟩ (hM H.size) ⟨zcB hts wc_Me_sumWith wini_Me wm_Me_99 (by decide +kernel) hrc hrs hR, hts _ wi_Me_sumWith, hts _ ws_Me_sumWith⟩ ⟨zP_blindC, va_recv hZ.2.1.1 hZ.2.2.1 (ci := 4) (q0 := 19) rfl rfl, zP_atC hZ⟩ rfl hAs hls rfl (lv_room hW) hdg ⟨Nat.zero_le _, Nat.zero_le _⟩) hZ kk
theorem k_Se_Se_gatherChoices {rm : Room} {M2 : Mem} (As : List Value) (hx0 : p.tables.exec = Jvm.exec) (hb : c.code = cc) (hml : c.maxLocals = nL) (hts : ∀ w ∈ zws, w.before args s = true) (hown : s.vm.findClass R_Se = some m.cls) (hM : MetZC l G y_Se_gatherChoices (Cond.code y_Se_gatherChoices b_Se_gatherChoices 3 none :: zws) rm (.ref (G.1 24) :: As) M none M2) (hZ : ZZC G s M H locs) (hrc : rm.cells = 0) (hrs : rm.slots = 0) (hR : rm.frames + 1 ≤ R.frames ∧ 8 + (3 + 11) + rm.locals ≤ R.locals) (hls : ls.size = nL) (hAs : As.length = 1) (hW : (rest.map fun v => v.category).sum ≤ 8) (hdg : decode cc pc = .ok (.invokevirtual 52, 3)) (kk : ∀ (H1 : Heap) (locs1 : List Loc), ZZC G s M2 H1 locs1 → W p l e R s m args below meth c H1 locs1 0 0 Q (F0 m (pc + 3) ls rest)) : W p l e R s m args below meth c H locs 0 0 Q (F0 m pc ls (As.reverse ++ .ref (G.1 24) :: rest)) :=
  z_runC (va_runV (As := As) (rest := rest) ⟨hx0, hb, hml, hown, hts⟩ (hM H.size) ⟨zcB hts wc_Se_gatherChoices wini_Se wm_Se_52 (by decide +kernel) hrc hrs hR, hts _ wi_Se_gatherChoices, hts _ ws_Se_gatherChoices⟩ ⟨zP_blindC, va_recv hZ.2.1.1 hZ.2.2.1 (ci := 5) (q0 := 24) rfl rfl, zP_atC hZ⟩ rfl hAs hls rfl (lv_room hW) hdg ⟨Nat.zero_le _, Nat.zero_le _⟩) hZ kk
theorem k_Se_Se_open {rm : Room} {M2 : Mem} (As : List Value) (hx0 : p.tables.exec = Jvm.exec) (hb : c.code = cc) (hml : c.maxLocals = nL) (hts : ∀ w ∈ zws, w.before args s = true) (hown : s.vm.findClass R_Se = some m.cls) (hM : MetZC l G y_Se_open (Cond.code y_Se_open b_Se_open 2 none :: zws) rm (.ref (G.1 24) :: As) M none M2) (hZ : ZZC G s M H locs) (hrc : rm.cells = 0) (hrs : rm.slots = 0) (hR : rm.frames + 1 ≤ R.frames ∧ 8 + (2 + 11) + rm.locals ≤ R.locals) (hls : ls.size = nL) (hAs : As.length = 1) (hW : (rest.map fun v => v.category).sum ≤ 8) (hdg : decode cc pc = .ok (.invokevirtual 56, 3)) (kk : ∀ (H1 : Heap) (locs1 : List Loc), ZZC G s M2 H1 locs1 → W p l e R s m args below meth c H1 locs1 0 0 Q (F0 m (pc + 3) ls rest)) : W p l e R s m args below meth c H locs 0 0 Q (F0 m pc ls (As.reverse ++ .ref (G.1 24) :: rest)) :=
  z_runC (va_runV (As := As) (rest := rest) ⟨hx0, hb, hml, hown, hts⟩ (hM H.size) ⟨zcB hts wc_Se_open wini_Se wm_Se_56 (by decide +kernel) hrc hrs hR, hts _ wi_Se_open, hts _ ws_Se_open⟩ ⟨zP_blindC, va_recv hZ.2.1.1 hZ.2.2.1 (ci := 5) (q0 := 24) rfl rfl, zP_atC hZ⟩ rfl hAs hls rfl (lv_room hW) hdg ⟨Nat.zero_le _, Nat.zero_le _⟩) hZ kk
theorem k_Se_Se_visit {rm : Room} {M2 : Mem} (As : List Value) (hx0 : p.tables.exec = Jvm.exec) (hb : c.code = cc) (hml : c.maxLocals = nL) (hts : ∀ w ∈ zws, w.before args s = true) (hown : s.vm.findClass R_Se = some m.cls) (hM : MetZC l G y_Se_visit (Cond.code y_Se_visit b_Se_visit 3 none :: zws) rm (.ref (G.1 24) :: As) M none M2) (hZ : ZZC G s M H locs) (hrc : rm.cells = 0) (hrs : rm.slots = 0) (hR : rm.frames + 1 ≤ R.frames ∧ 8 + (3 + 11) + rm.locals ≤ R.locals) (hls : ls.size = nL) (hAs : As.length = 2) (hW : (rest.map fun v => v.category).sum ≤ 8) (hdg : decode cc pc = .ok (.invokevirtual 59, 3)) (kk : ∀ (H1 : Heap) (locs1 : List Loc), ZZC G s M2 H1 locs1 → W p l e R s m args below meth c H1 locs1 0 0 Q (F0 m (pc + 3) ls rest)) : W p l e R s m args below meth c H locs 0 0 Q (F0 m pc ls (As.reverse ++ .ref (G.1 24) :: rest)) :=
  z_runC (va_runV (As := As) (rest := rest) ⟨hx0, hb, hml, hown, hts⟩ (hM H.size) ⟨zcB hts wc_Se_visit wini_Se wm_Se_59 (by decide +kernel) hrc hrs hR, hts _ wi_Se_visit, hts _ ws_Se_visit⟩ ⟨zP_blindC, va_recv hZ.2.1.1 hZ.2.2.1 (ci := 5) (q0 := 24) rfl rfl, zP_atC hZ⟩ rfl hAs hls rfl (lv_room hW) hdg ⟨Nat.zero_le _, Nat.zero_le _⟩) hZ kk
theorem k_Se_Rw_at {r : Nat} {rm : Room} {M2 : Mem} (As : List Value) (hx0 : p.tables.exec = Jvm.exec) (hb : c.code = cc) (hml : c.maxLocals = nL) (hts : ∀ w ∈ zws, w.before args s = true) (hown : s.vm.findClass R_Se = some m.cls) (hM : MetZC l G y_Rw_at (Cond.code y_Rw_at b_Rw_at 2 (some (.array .int)) :: zws) rm (.ref (G.1 9) :: As) M (some (.ref r)) M2) (hZ : ZZC G s M H locs) (hrc : rm.cells = 0) (hrs : rm.slots = 0) (hR : rm.frames + 1 ≤ R.frames ∧ 8 + (2 + 11) + rm.locals ≤ R.locals) (hls : ls.size = nL) (hAs : As.length = 1) (hW : (rest.map fun v => v.category).sum ≤ 8) (hdg : decode cc pc = .ok (.invokevirtual 63, 3)) (kk : ∀ (H1 : Heap) (locs1 : List Loc), ZZC G s M2 H1 locs1 → W p l e R s m args below meth c H1 locs1 0 0 Q (F0 m (pc + 3) ls (.ref r :: rest))) : W p l e R s m args below meth c H locs 0 0 Q (F0 m pc ls (As.reverse ++ .ref (G.1 9) :: rest)) :=
  z_runC (va_runV (As := As) (rest := rest) ⟨hx0, hb, hml, hown, hts⟩ (hM H.size) ⟨zcB hts wc_Rw_at wini_Rw wm_Se_63 (by decide +kernel) hrc hrs hR, hts _ wi_Rw_at, hts _ ws_Rw_at⟩ ⟨zP_blindC, va_recv hZ.2.1.1 hZ.2.2.1 (ci := 1) (q0 := 9) rfl rfl, zP_atC hZ⟩ rfl hAs hls rfl (lv_room hW) hdg ⟨Nat.zero_le _, Nat.zero_le _⟩) hZ kk
theorem k_Se_Se_addChoice {rm : Room} {M2 : Mem} (As : List Value) (hx0 : p.tables.exec = Jvm.exec) (hb : c.code = cc) (hml : c.maxLocals = nL) (hts : ∀ w ∈ zws, w.before args s = true) (hown : s.vm.findClass R_Se = some m.cls) (hM : MetZC l G y_Se_addChoice (Cond.code y_Se_addChoice b_Se_addChoice 8 none :: zws) rm (.ref (G.1 24) :: As) M none M2) (hZ : ZZC G s M H locs) (hrc : rm.cells = 0) (hrs : rm.slots = 0) (hR : rm.frames + 1 ≤ R.frames ∧ 8 + (8 + 11) + rm.locals ≤ R.locals) (hls : ls.size = nL) (hAs : As.length = 2) (hW : (rest.map fun v => v.category).sum ≤ 8) (hdg : decode cc pc = .ok (.invokevirtual 69, 3)) (kk : ∀ (H1 : Heap) (locs1 : List Loc), ZZC G s M2 H1 locs1 → W p l e R s m args below meth c H1 locs1 0 0 Q (F0 m (pc + 3) ls rest)) : W p l e R s m args below meth c H locs 0 0 Q (F0 m pc ls (As.reverse ++ .ref (G.1 24) :: rest)) :=
  z_runC (va_runV (As := As) (rest := rest) ⟨hx0, hb, hml, hown, hts⟩ (hM H.size) ⟨zcB hts wc_Se_addChoice wini_Se wm_Se_69 (by decide +kernel) hrc hrs hR, hts _ wi_Se_addChoice, hts _ ws_Se_addChoice⟩ ⟨zP_blindC, va_recv hZ.2.1.1 hZ.2.2.1 (ci := 5) (q0 := 24) rfl rfl, zP_atC hZ⟩ rfl hAs hls rfl (lv_room hW) hdg ⟨Nat.zero_le _, Nat.zero_le _⟩) hZ kk
theorem k_Se_Rw_count {r : Int32} {rm : Room} {M2 : Mem} (As : List Value) (hx0 : p.tables.exec = Jvm.exec) (hb : c.code = cc) (hml : c.maxLocals = nL) (hts : ∀ w ∈ zws, w.before args s = true) (hown : s.vm.findClass R_Se = some m.cls) (hM : MetZC l G y_Rw_count (Cond.code y_Rw_count b_Rw_count 1 (some .int) :: zws) rm (.ref (G.1 9) :: As) M (some (.int r)) M2) (hZ : ZZC G s M H locs) (hrc : rm.cells = 0) (hrs : rm.slots = 0) (hR : rm.frames + 1 ≤ R.frames ∧ 8 + (1 + 11) + rm.locals ≤ R.locals) (hls : ls.size = nL) (hAs : As.length = 0) (hW : (rest.map fun v => v.category).sum ≤ 8) (hdg : decode cc pc = .ok (.invokevirtual 72, 3)) (kk : ∀ (H1 : Heap) (locs1 : List Loc), ZZC G s M2 H1 locs1 → W p l e R s m args below meth c H1 locs1 0 0 Q (F0 m (pc + 3) ls (.int r :: rest))) : W p l e R s m args below meth c H locs 0 0 Q (F0 m pc ls (As.reverse ++ .ref (G.1 9) :: rest)) :=
  z_runC (va_runV (As := As) (rest := rest) ⟨hx0, hb, hml, hown, hts⟩ (hM H.size) ⟨zcB hts wc_Rw_count wini_Rw wm_Se_72 (by decide +kernel) hrc hrs hR, hts _ wi_Rw_count, hts _ ws_Rw_count⟩ ⟨zP_blindC, va_recv hZ.2.1.1 hZ.2.2.1 (ci := 1) (q0 := 9) rfl rfl, zP_atC hZ⟩ rfl hAs hls rfl (lv_room hW) hdg ⟨Nat.zero_le _, Nat.zero_le _⟩) hZ kk
theorem k_Se_Ln_boundWithin {r : Int32} {rm : Room} {M2 : Mem} (As : List Value) (hx0 : p.tables.exec = Jvm.exec) (hb : c.code = cc) (hml : c.maxLocals = nL) (hts : ∀ w ∈ zws, w.before args s = true) (hown : s.vm.findClass R_Se = some m.cls) (hM : MetZC l G y_Ln_boundWithin (Cond.code y_Ln_boundWithin b_Ln_boundWithin 5 (some .int) :: zws) rm (.ref (G.1 1) :: As) M (some (.int r)) M2) (hZ : ZZC G s M H locs) (hrc : rm.cells = 0) (hrs : rm.slots = 0) (hR : rm.frames + 1 ≤ R.frames ∧ 8 + (5 + 11) + rm.locals ≤ R.locals) (hls : ls.size = nL) (hAs : As.length = 2) (hW : (rest.map fun v => v.category).sum ≤ 8) (hdg : decode cc pc = .ok (.invokevirtual 76, 3)) (kk : ∀ (H1 : Heap) (locs1 : List Loc), ZZC G s M2 H1 locs1 → W p l e R s m args below meth c H1 locs1 0 0 Q (F0 m (pc + 3) ls (.int r :: rest))) : W p l e R s m args below meth c H locs 0 0 Q (F0 m pc ls (As.reverse ++ .ref (G.1 1) :: rest)) :=
  z_runC (va_runV (As := As) (rest := rest) ⟨hx0, hb, hml, hown, hts⟩ (hM H.size) ⟨zcB hts wc_Ln_boundWithin wini_Ln wm_Se_76 (by decide +kernel) hrc hrs hR, hts _ wi_Ln_boundWithin, hts _ ws_Ln_boundWithin⟩ ⟨zP_blindC, va_recv hZ.2.1.1 hZ.2.2.1 (ci := 0) (q0 := 1) rfl rfl, zP_atC hZ⟩ rfl hAs hls rfl (lv_room hW) hdg ⟨Nat.zero_le _, Nat.zero_le _⟩) hZ kk
theorem k_Se_Se_settle {rm : Room} {M2 : Mem} (As : List Value) (hx0 : p.tables.exec = Jvm.exec) (hb : c.code = cc) (hml : c.maxLocals = nL) (hts : ∀ w ∈ zws, w.before args s = true) (hown : s.vm.findClass R_Se = some m.cls) (hM : MetZC l G y_Se_settle (Cond.code y_Se_settle b_Se_settle 5 none :: zws) rm (.ref (G.1 24) :: As) M none M2) (hZ : ZZC G s M H locs) (hrc : rm.cells = 0) (hrs : rm.slots = 0) (hR : rm.frames + 1 ≤ R.frames ∧ 8 + (5 + 11) + rm.locals ≤ R.locals) (hls : ls.size = nL) (hAs : As.length = 2) (hW : (rest.map fun v => v.category).sum ≤ 8) (hdg : decode cc pc = .ok (.invokevirtual 82, 3)) (kk : ∀ (H1 : Heap) (locs1 : List Loc), ZZC G s M2 H1 locs1 → W p l e R s m args below meth c H1 locs1 0 0 Q (F0 m (pc + 3) ls rest)) : W p l e R s m args below meth c H locs 0 0 Q (F0 m pc ls (As.reverse ++ .ref (G.1 24) :: rest)) :=
  z_runC (va_runV (As := As) (rest := rest) ⟨hx0, hb, hml, hown, hts⟩ (hM H.size) ⟨zcB hts wc_Se_settle wini_Se wm_Se_82 (by decide +kernel) hrc hrs hR, hts _ wi_Se_settle, hts _ ws_Se_settle⟩ ⟨zP_blindC, va_recv hZ.2.1.1 hZ.2.2.1 (ci := 5) (q0 := 24) rfl rfl, zP_atC hZ⟩ rfl hAs hls rfl (lv_room hW) hdg ⟨Nat.zero_le _, Nat.zero_le _⟩) hZ kk
theorem k_Se_Se_keep {rm : Room} {M2 : Mem} (As : List Value) (hx0 : p.tables.exec = Jvm.exec) (hb : c.code = cc) (hml : c.maxLocals = nL) (hts : ∀ w ∈ zws, w.before args s = true) (hown : s.vm.findClass R_Se = some m.cls) (hM : MetZC l G y_Se_keep (Cond.code y_Se_keep b_Se_keep 3 none :: zws) rm (.ref (G.1 24) :: As) M none M2) (hZ : ZZC G s M H locs) (hrc : rm.cells = 0) (hrs : rm.slots = 0) (hR : rm.frames + 1 ≤ R.frames ∧ 8 + (3 + 11) + rm.locals ≤ R.locals) (hls : ls.size = nL) (hAs : As.length = 1) (hW : (rest.map fun v => v.category).sum ≤ 8) (hdg : decode cc pc = .ok (.invokevirtual 85, 3)) (kk : ∀ (H1 : Heap) (locs1 : List Loc), ZZC G s M2 H1 locs1 → W p l e R s m args below meth c H1 locs1 0 0 Q (F0 m (pc + 3) ls rest)) : W p l e R s m args below meth c H locs 0 0 Q (F0 m pc ls (As.reverse ++ .ref (G.1 24) :: rest)) :=
  z_runC (va_runV (As := As) (rest := rest) ⟨hx0, hb, hml, hown, hts⟩ (hM H.size) ⟨zcB hts wc_Se_keep wini_Se wm_Se_85 (by decide +kernel) hrc hrs hR, hts _ wi_Se_keep, hts _ ws_Se_keep⟩ ⟨zP_blindC, va_recv hZ.2.1.1 hZ.2.2.1 (ci := 5) (q0 := 24) rfl rfl, zP_atC hZ⟩ rfl hAs hls rfl (lv_room hW) hdg ⟨Nat.zero_le _, Nat.zero_le _⟩) hZ kk
theorem k_Se_Se_costOf {r : Int32} {rm : Room} {M2 : Mem} (As : List Value) (hx0 : p.tables.exec = Jvm.exec) (hb : c.code = cc) (hml : c.maxLocals = nL) (hts : ∀ w ∈ zws, w.before args s = true) (hown : s.vm.findClass R_Se = some m.cls) (hM : MetZC l G y_Se_costOf (Cond.code y_Se_costOf b_Se_costOf 4 (some .int) :: zws) rm (.ref (G.1 24) :: As) M (some (.int r)) M2) (hZ : ZZC G s M H locs) (hrc : rm.cells = 0) (hrs : rm.slots = 0) (hR : rm.frames + 1 ≤ R.frames ∧ 8 + (4 + 11) + rm.locals ≤ R.locals) (hls : ls.size = nL) (hAs : As.length = 2) (hW : (rest.map fun v => v.category).sum ≤ 8) (hdg : decode cc pc = .ok (.invokevirtual 88, 3)) (kk : ∀ (H1 : Heap) (locs1 : List Loc), ZZC G s M2 H1 locs1 → W p l e R s m args below meth c H1 locs1 0 0 Q (F0 m (pc + 3) ls (.int r :: rest))) : W p l e R s m args below meth c H locs 0 0 Q (F0 m pc ls (As.reverse ++ .ref (G.1 24) :: rest)) :=
  z_runC (va_runV (As := As) (rest := rest) ⟨hx0, hb, hml, hown, hts⟩ (hM H.size) ⟨zcB hts wc_Se_costOf wini_Se wm_Se_88 (by decide +kernel) hrc hrs hR, hts _ wi_Se_costOf, hts _ ws_Se_costOf⟩ ⟨zP_blindC, va_recv hZ.2.1.1 hZ.2.2.1 (ci := 5) (q0 := 24) rfl rfl, zP_atC hZ⟩ rfl hAs hls rfl (lv_room hW) hdg ⟨Nat.zero_le _, Nat.zero_le _⟩) hZ kk
theorem k_ES_ES_isWithin {r : Int32} {rm : Room} {M2 : Mem} (As : List Value) (hx0 : p.tables.exec = Jvm.exec) (hb : c.code = cc) (hml : c.maxLocals = nL) (hts : ∀ w ∈ zws, w.before args s = true) (hown : s.vm.findClass R_ES = some m.cls) (hM : MetZC l G y_ES_isWithin (Cond.code y_ES_isWithin b_ES_isWithin 2 (some .boolean) :: zws) rm (As) M (some (.int r)) M2) (hZ : ZZC G s M H locs) (hrc : rm.cells = 0) (hrs : rm.slots = 0) (hR : rm.frames + 1 ≤ R.frames ∧ 8 + (2 + 11) + rm.locals ≤ R.locals) (hls : ls.size = nL) (hAs : As.length = 2) (hW : (rest.map fun v => v.category).sum ≤ 8) (hdg : decode cc pc = .ok (.invokestatic 63, 3)) (kk : ∀ (H1 : Heap) (locs1 : List Loc), ZZC G s M2 H1 locs1 → W p l e R s m args below meth c H1 locs1 0 0 Q (F0 m (pc + 3) ls (.int r :: rest))) : W p l e R s m args below meth c H locs 0 0 Q (F0 m pc ls (As.reverse ++ rest)) :=
  z_runC (va_runS (As := As) (rest := rest) ⟨hx0, hb, hml, hown, hts⟩ (hM H.size) ⟨zcB hts wc_ES_isWithin wini_ES wm_ES_63 (by decide +kernel) hrc hrs hR, hts _ wst_ES_isWithin⟩ ⟨zP_blindC, zP_atC hZ⟩ rfl hAs hls rfl (lv_room hW) hdg ⟨Nat.zero_le _, Nat.zero_le _⟩) hZ kk
theorem k_ES_Ln_addLeaf {r : Int32} {rm : Room} {M2 : Mem} (As : List Value) (hx0 : p.tables.exec = Jvm.exec) (hb : c.code = cc) (hml : c.maxLocals = nL) (hts : ∀ w ∈ zws, w.before args s = true) (hown : s.vm.findClass R_ES = some m.cls) (hM : MetZC l G y_Ln_addLeaf (Cond.code y_Ln_addLeaf b_Ln_addLeaf 2 (some .int) :: zws) rm (.ref (G.1 1) :: As) M (some (.int r)) M2) (hZ : ZZC G s M H locs) (hrc : rm.cells = 0) (hrs : rm.slots = 0) (hR : rm.frames + 1 ≤ R.frames ∧ 8 + (2 + 11) + rm.locals ≤ R.locals) (hls : ls.size = nL) (hAs : As.length = 1) (hW : (rest.map fun v => v.category).sum ≤ 8) (hdg : decode cc pc = .ok (.invokevirtual 67, 3)) (kk : ∀ (H1 : Heap) (locs1 : List Loc), ZZC G s M2 H1 locs1 → W p l e R s m args below meth c H1 locs1 0 0 Q (F0 m (pc + 3) ls (.int r :: rest))) : W p l e R s m args below meth c H locs 0 0 Q (F0 m pc ls (As.reverse ++ .ref (G.1 1) :: rest)) :=
  z_runC (va_runV (As := As) (rest := rest) ⟨hx0, hb, hml, hown, hts⟩ (hM H.size) ⟨zcB hts wc_Ln_addLeaf wini_Ln wm_ES_67 (by decide +kernel) hrc hrs hR, hts _ wi_Ln_addLeaf, hts _ ws_Ln_addLeaf⟩ ⟨zP_blindC, va_recv hZ.2.1.1 hZ.2.2.1 (ci := 0) (q0 := 1) rfl rfl, zP_atC hZ⟩ rfl hAs hls rfl (lv_room hW) hdg ⟨Nat.zero_le _, Nat.zero_le _⟩) hZ kk
theorem k_ES_ES_isColumn {r : Int32} {rm : Room} {M2 : Mem} (As : List Value) (hx0 : p.tables.exec = Jvm.exec) (hb : c.code = cc) (hml : c.maxLocals = nL) (hts : ∀ w ∈ zws, w.before args s = true) (hown : s.vm.findClass R_ES = some m.cls) (hM : MetZC l G y_ES_isColumn (Cond.code y_ES_isColumn b_ES_isColumn 2 (some .boolean) :: zws) rm (.ref (G.1 0) :: As) M (some (.int r)) M2) (hZ : ZZC G s M H locs) (hrc : rm.cells = 0) (hrs : rm.slots = 0) (hR : rm.frames + 1 ≤ R.frames ∧ 8 + (2 + 11) + rm.locals ≤ R.locals) (hls : ls.size = nL) (hAs : As.length = 1) (hW : (rest.map fun v => v.category).sum ≤ 8) (hdg : decode cc pc = .ok (.invokevirtual 71, 3)) (kk : ∀ (H1 : Heap) (locs1 : List Loc), ZZC G s M2 H1 locs1 → W p l e R s m args below meth c H1 locs1 0 0 Q (F0 m (pc + 3) ls (.int r :: rest))) : W p l e R s m args below meth c H locs 0 0 Q (F0 m pc ls (As.reverse ++ .ref (G.1 0) :: rest)) :=
  z_runC (va_runV (As := As) (rest := rest) ⟨hx0, hb, hml, hown, hts⟩ (hM H.size) ⟨zcB hts wc_ES_isColumn wini_ES wm_ES_71 (by decide +kernel) hrc hrs hR, hts _ wi_ES_isColumn, hts _ ws_ES_isColumn⟩ ⟨zP_blindC, va_recv hZ.2.1.1 hZ.2.2.1 (ci := 6) (q0 := 0) rfl rfl, zP_atC hZ⟩ rfl hAs hls rfl (lv_room hW) hdg ⟨Nat.zero_le _, Nat.zero_le _⟩) hZ kk
theorem k_ES_Ln_hasNode {r : Int32} {rm : Room} {M2 : Mem} (As : List Value) (hx0 : p.tables.exec = Jvm.exec) (hb : c.code = cc) (hml : c.maxLocals = nL) (hts : ∀ w ∈ zws, w.before args s = true) (hown : s.vm.findClass R_ES = some m.cls) (hM : MetZC l G y_Ln_hasNode (Cond.code y_Ln_hasNode b_Ln_hasNode 2 (some .boolean) :: zws) rm (.ref (G.1 1) :: As) M (some (.int r)) M2) (hZ : ZZC G s M H locs) (hrc : rm.cells = 0) (hrs : rm.slots = 0) (hR : rm.frames + 1 ≤ R.frames ∧ 8 + (2 + 11) + rm.locals ≤ R.locals) (hls : ls.size = nL) (hAs : As.length = 1) (hW : (rest.map fun v => v.category).sum ≤ 8) (hdg : decode cc pc = .ok (.invokevirtual 75, 3)) (kk : ∀ (H1 : Heap) (locs1 : List Loc), ZZC G s M2 H1 locs1 → W p l e R s m args below meth c H1 locs1 0 0 Q (F0 m (pc + 3) ls (.int r :: rest))) : W p l e R s m args below meth c H locs 0 0 Q (F0 m pc ls (As.reverse ++ .ref (G.1 1) :: rest)) :=
  z_runC (va_runV (As := As) (rest := rest) ⟨hx0, hb, hml, hown, hts⟩ (hM H.size) ⟨zcB hts wc_Ln_hasNode wini_Ln wm_ES_75 (by decide +kernel) hrc hrs hR, hts _ wi_Ln_hasNode, hts _ ws_Ln_hasNode⟩ ⟨zP_blindC, va_recv hZ.2.1.1 hZ.2.2.1 (ci := 0) (q0 := 1) rfl rfl, zP_atC hZ⟩ rfl hAs hls rfl (lv_room hW) hdg ⟨Nat.zero_le _, Nat.zero_le _⟩) hZ kk
theorem k_ES_Ln_addSplit {r : Int32} {rm : Room} {M2 : Mem} (As : List Value) (hx0 : p.tables.exec = Jvm.exec) (hb : c.code = cc) (hml : c.maxLocals = nL) (hts : ∀ w ∈ zws, w.before args s = true) (hown : s.vm.findClass R_ES = some m.cls) (hM : MetZC l G y_Ln_addSplit (Cond.code y_Ln_addSplit b_Ln_addSplit 5 (some .int) :: zws) rm (.ref (G.1 1) :: As) M (some (.int r)) M2) (hZ : ZZC G s M H locs) (hrc : rm.cells = 0) (hrs : rm.slots = 0) (hR : rm.frames + 1 ≤ R.frames ∧ 8 + (5 + 11) + rm.locals ≤ R.locals) (hls : ls.size = nL) (hAs : As.length = 4) (hW : (rest.map fun v => v.category).sum ≤ 8) (hdg : decode cc pc = .ok (.invokevirtual 78, 3)) (kk : ∀ (H1 : Heap) (locs1 : List Loc), ZZC G s M2 H1 locs1 → W p l e R s m args below meth c H1 locs1 0 0 Q (F0 m (pc + 3) ls (.int r :: rest))) : W p l e R s m args below meth c H locs 0 0 Q (F0 m pc ls (As.reverse ++ .ref (G.1 1) :: rest)) :=
  z_runC (va_runV (As := As) (rest := rest) ⟨hx0, hb, hml, hown, hts⟩ (hM H.size) ⟨zcB hts wc_Ln_addSplit wini_Ln wm_ES_78 (by decide +kernel) hrc hrs hR, hts _ wi_Ln_addSplit, hts _ ws_Ln_addSplit⟩ ⟨zP_blindC, va_recv hZ.2.1.1 hZ.2.2.1 (ci := 0) (q0 := 1) rfl rfl, zP_atC hZ⟩ rfl hAs hls rfl (lv_room hW) hdg ⟨Nat.zero_le _, Nat.zero_le _⟩) hZ kk
theorem k_ES_Ln_addRoot {r : Int32} {rm : Room} {M2 : Mem} (As : List Value) (hx0 : p.tables.exec = Jvm.exec) (hb : c.code = cc) (hml : c.maxLocals = nL) (hts : ∀ w ∈ zws, w.before args s = true) (hown : s.vm.findClass R_ES = some m.cls) (hM : MetZC l G y_Ln_addRoot (Cond.code y_Ln_addRoot b_Ln_addRoot 2 (some .int) :: zws) rm (.ref (G.1 1) :: As) M (some (.int r)) M2) (hZ : ZZC G s M H locs) (hrc : rm.cells = 0) (hrs : rm.slots = 0) (hR : rm.frames + 1 ≤ R.frames ∧ 8 + (2 + 11) + rm.locals ≤ R.locals) (hls : ls.size = nL) (hAs : As.length = 1) (hW : (rest.map fun v => v.category).sum ≤ 8) (hdg : decode cc pc = .ok (.invokevirtual 82, 3)) (kk : ∀ (H1 : Heap) (locs1 : List Loc), ZZC G s M2 H1 locs1 → W p l e R s m args below meth c H1 locs1 0 0 Q (F0 m (pc + 3) ls (.int r :: rest))) : W p l e R s m args below meth c H locs 0 0 Q (F0 m pc ls (As.reverse ++ .ref (G.1 1) :: rest)) :=
  z_runC (va_runV (As := As) (rest := rest) ⟨hx0, hb, hml, hown, hts⟩ (hM H.size) ⟨zcB hts wc_Ln_addRoot wini_Ln wm_ES_82 (by decide +kernel) hrc hrs hR, hts _ wi_Ln_addRoot, hts _ ws_Ln_addRoot⟩ ⟨zP_blindC, va_recv hZ.2.1.1 hZ.2.2.1 (ci := 0) (q0 := 1) rfl rfl, zP_atC hZ⟩ rfl hAs hls rfl (lv_room hW) hdg ⟨Nat.zero_le _, Nat.zero_le _⟩) hZ kk
theorem k_ES_Ln_weigh {rm : Room} {M2 : Mem} (As : List Value) (hx0 : p.tables.exec = Jvm.exec) (hb : c.code = cc) (hml : c.maxLocals = nL) (hts : ∀ w ∈ zws, w.before args s = true) (hown : s.vm.findClass R_ES = some m.cls) (hM : MetZC l G y_Ln_weigh (Cond.code y_Ln_weigh b_Ln_weigh 3 none :: zws) rm (.ref (G.1 1) :: As) M none M2) (hZ : ZZC G s M H locs) (hrc : rm.cells = 0) (hrs : rm.slots = 0) (hR : rm.frames + 1 ≤ R.frames ∧ 8 + (3 + 11) + rm.locals ≤ R.locals) (hls : ls.size = nL) (hAs : As.length = 2) (hW : (rest.map fun v => v.category).sum ≤ 8) (hdg : decode cc pc = .ok (.invokevirtual 85, 3)) (kk : ∀ (H1 : Heap) (locs1 : List Loc), ZZC G s M2 H1 locs1 → W p l e R s m args below meth c H1 locs1 0 0 Q (F0 m (pc + 3) ls rest)) : W p l e R s m args below meth c H locs 0 0 Q (F0 m pc ls (As.reverse ++ .ref (G.1 1) :: rest)) :=
  z_runC (va_runV (As := As) (rest := rest) ⟨hx0, hb, hml, hown, hts⟩ (hM H.size) ⟨zcB hts wc_Ln_weigh wini_Ln wm_ES_85 (by decide +kernel) hrc hrs hR, hts _ wi_Ln_weigh, hts _ ws_Ln_weigh⟩ ⟨zP_blindC, va_recv hZ.2.1.1 hZ.2.2.1 (ci := 0) (q0 := 1) rfl rfl, zP_atC hZ⟩ rfl hAs hls rfl (lv_room hW) hdg ⟨Nat.zero_le _, Nat.zero_le _⟩) hZ kk
theorem k_ES_Ln_forget {r : Int32} {rm : Room} {M2 : Mem} (As : List Value) (hx0 : p.tables.exec = Jvm.exec) (hb : c.code = cc) (hml : c.maxLocals = nL) (hts : ∀ w ∈ zws, w.before args s = true) (hown : s.vm.findClass R_ES = some m.cls) (hM : MetZC l G y_Ln_forget (Cond.code y_Ln_forget b_Ln_forget 3 (some .int) :: zws) rm (.ref (G.1 1) :: As) M (some (.int r)) M2) (hZ : ZZC G s M H locs) (hrc : rm.cells = 0) (hrs : rm.slots = 0) (hR : rm.frames + 1 ≤ R.frames ∧ 8 + (3 + 11) + rm.locals ≤ R.locals) (hls : ls.size = nL) (hAs : As.length = 0) (hW : (rest.map fun v => v.category).sum ≤ 8) (hdg : decode cc pc = .ok (.invokevirtual 89, 3)) (kk : ∀ (H1 : Heap) (locs1 : List Loc), ZZC G s M2 H1 locs1 → W p l e R s m args below meth c H1 locs1 0 0 Q (F0 m (pc + 3) ls (.int r :: rest))) : W p l e R s m args below meth c H locs 0 0 Q (F0 m pc ls (As.reverse ++ .ref (G.1 1) :: rest)) :=
  z_runC (va_runV (As := As) (rest := rest) ⟨hx0, hb, hml, hown, hts⟩ (hM H.size) ⟨zcB hts wc_Ln_forget wini_Ln wm_ES_89 (by decide +kernel) hrc hrs hR, hts _ wi_Ln_forget, hts _ ws_Ln_forget⟩ ⟨zP_blindC, va_recv hZ.2.1.1 hZ.2.2.1 (ci := 0) (q0 := 1) rfl rfl, zP_atC hZ⟩ rfl hAs hls rfl (lv_room hW) hdg ⟨Nat.zero_le _, Nat.zero_le _⟩) hZ kk
theorem k_ES_Rw_forget {rm : Room} {M2 : Mem} (As : List Value) (hx0 : p.tables.exec = Jvm.exec) (hb : c.code = cc) (hml : c.maxLocals = nL) (hts : ∀ w ∈ zws, w.before args s = true) (hown : s.vm.findClass R_ES = some m.cls) (hM : MetZC l G y_Rw_forget (Cond.code y_Rw_forget b_Rw_forget 1 none :: zws) rm (.ref (G.1 9) :: As) M none M2) (hZ : ZZC G s M H locs) (hrc : rm.cells = 0) (hrs : rm.slots = 0) (hR : rm.frames + 1 ≤ R.frames ∧ 8 + (1 + 11) + rm.locals ≤ R.locals) (hls : ls.size = nL) (hAs : As.length = 0) (hW : (rest.map fun v => v.category).sum ≤ 8) (hdg : decode cc pc = .ok (.invokevirtual 93, 3)) (kk : ∀ (H1 : Heap) (locs1 : List Loc), ZZC G s M2 H1 locs1 → W p l e R s m args below meth c H1 locs1 0 0 Q (F0 m (pc + 3) ls rest)) : W p l e R s m args below meth c H locs 0 0 Q (F0 m pc ls (As.reverse ++ .ref (G.1 9) :: rest)) :=
  z_runC (va_runV (As := As) (rest := rest) ⟨hx0, hb, hml, hown, hts⟩ (hM H.size) ⟨zcB hts wc_Rw_forget wini_Rw wm_ES_93 (by decide +kernel) hrc hrs hR, hts _ wi_Rw_forget, hts _ ws_Rw_forget⟩ ⟨zP_blindC, va_recv hZ.2.1.1 hZ.2.2.1 (ci := 1) (q0 := 9) rfl rfl, zP_atC hZ⟩ rfl hAs hls rfl (lv_room hW) hdg ⟨Nat.zero_le _, Nat.zero_le _⟩) hZ kk
theorem k_ES_Gr_standAlone {rm : Room} {M2 : Mem} (As : List Value) (hx0 : p.tables.exec = Jvm.exec) (hb : c.code = cc) (hml : c.maxLocals = nL) (hts : ∀ w ∈ zws, w.before args s = true) (hown : s.vm.findClass R_ES = some m.cls) (hM : MetZC l G y_Gr_standAlone (Cond.code y_Gr_standAlone b_Gr_standAlone 2 none :: zws) rm (.ref (G.1 17) :: As) M none M2) (hZ : ZZC G s M H locs) (hrc : rm.cells = 0) (hrs : rm.slots = 0) (hR : rm.frames + 1 ≤ R.frames ∧ 8 + (2 + 11) + rm.locals ≤ R.locals) (hls : ls.size = nL) (hAs : As.length = 0) (hW : (rest.map fun v => v.category).sum ≤ 8) (hdg : decode cc pc = .ok (.invokevirtual 95, 3)) (kk : ∀ (H1 : Heap) (locs1 : List Loc), ZZC G s M2 H1 locs1 → W p l e R s m args below meth c H1 locs1 0 0 Q (F0 m (pc + 3) ls rest)) : W p l e R s m args below meth c H locs 0 0 Q (F0 m pc ls (As.reverse ++ .ref (G.1 17) :: rest)) :=
  z_runC (va_runV (As := As) (rest := rest) ⟨hx0, hb, hml, hown, hts⟩ (hM H.size) ⟨zcB hts wc_Gr_standAlone wini_Gr wm_ES_95 (by decide +kernel) hrc hrs hR, hts _ wi_Gr_standAlone, hts _ ws_Gr_standAlone⟩ ⟨zP_blindC, va_recv hZ.2.1.1 hZ.2.2.1 (ci := 2) (q0 := 17) rfl rfl, zP_atC hZ⟩ rfl hAs hls rfl (lv_room hW) hdg ⟨Nat.zero_le _, Nat.zero_le _⟩) hZ kk
theorem k_ES_Se_unbarAll {rm : Room} {M2 : Mem} (As : List Value) (hx0 : p.tables.exec = Jvm.exec) (hb : c.code = cc) (hml : c.maxLocals = nL) (hts : ∀ w ∈ zws, w.before args s = true) (hown : s.vm.findClass R_ES = some m.cls) (hM : MetZC l G y_Se_unbarAll (Cond.code y_Se_unbarAll b_Se_unbarAll 2 none :: zws) rm (.ref (G.1 24) :: As) M none M2) (hZ : ZZC G s M H locs) (hrc : rm.cells = 0) (hrs : rm.slots = 0) (hR : rm.frames + 1 ≤ R.frames ∧ 8 + (2 + 11) + rm.locals ≤ R.locals) (hls : ls.size = nL) (hAs : As.length = 0) (hW : (rest.map fun v => v.category).sum ≤ 8) (hdg : decode cc pc = .ok (.invokevirtual 98, 3)) (kk : ∀ (H1 : Heap) (locs1 : List Loc), ZZC G s M2 H1 locs1 → W p l e R s m args below meth c H1 locs1 0 0 Q (F0 m (pc + 3) ls rest)) : W p l e R s m args below meth c H locs 0 0 Q (F0 m pc ls (As.reverse ++ .ref (G.1 24) :: rest)) :=
  z_runC (va_runV (As := As) (rest := rest) ⟨hx0, hb, hml, hown, hts⟩ (hM H.size) ⟨zcB hts wc_Se_unbarAll wini_Se wm_ES_98 (by decide +kernel) hrc hrs hR, hts _ wi_Se_unbarAll, hts _ ws_Se_unbarAll⟩ ⟨zP_blindC, va_recv hZ.2.1.1 hZ.2.2.1 (ci := 5) (q0 := 24) rfl rfl, zP_atC hZ⟩ rfl hAs hls rfl (lv_room hW) hdg ⟨Nat.zero_le _, Nat.zero_le _⟩) hZ kk
theorem k_ES_Rw_addRow {r : Int32} {rm : Room} {M2 : Mem} (As : List Value) (hx0 : p.tables.exec = Jvm.exec) (hb : c.code = cc) (hml : c.maxLocals = nL) (hts : ∀ w ∈ zws, w.before args s = true) (hown : s.vm.findClass R_ES = some m.cls) (hM : MetZC l G y_Rw_addRow (Cond.code y_Rw_addRow b_Rw_addRow 1 (some .int) :: zws) rm (.ref (G.1 9) :: As) M (some (.int r)) M2) (hZ : ZZC G s M H locs) (hrc : rm.cells = 0) (hrs : rm.slots = 0) (hR : rm.frames + 1 ≤ R.frames ∧ 8 + (1 + 11) + rm.locals ≤ R.locals) (hls : ls.size = nL) (hAs : As.length = 0) (hW : (rest.map fun v => v.category).sum ≤ 8) (hdg : decode cc pc = .ok (.invokevirtual 101, 3)) (kk : ∀ (H1 : Heap) (locs1 : List Loc), ZZC G s M2 H1 locs1 → W p l e R s m args below meth c H1 locs1 0 0 Q (F0 m (pc + 3) ls (.int r :: rest))) : W p l e R s m args below meth c H locs 0 0 Q (F0 m pc ls (As.reverse ++ .ref (G.1 9) :: rest)) :=
  z_runC (va_runV (As := As) (rest := rest) ⟨hx0, hb, hml, hown, hts⟩ (hM H.size) ⟨zcB hts wc_Rw_addRow wini_Rw wm_ES_101 (by decide +kernel) hrc hrs hR, hts _ wi_Rw_addRow, hts _ ws_Rw_addRow⟩ ⟨zP_blindC, va_recv hZ.2.1.1 hZ.2.2.1 (ci := 1) (q0 := 9) rfl rfl, zP_atC hZ⟩ rfl hAs hls rfl (lv_room hW) hdg ⟨Nat.zero_le _, Nat.zero_le _⟩) hZ kk
theorem k_ES_Rw_has {r : Int32} {rm : Room} {M2 : Mem} (As : List Value) (hx0 : p.tables.exec = Jvm.exec) (hb : c.code = cc) (hml : c.maxLocals = nL) (hts : ∀ w ∈ zws, w.before args s = true) (hown : s.vm.findClass R_ES = some m.cls) (hM : MetZC l G y_Rw_has (Cond.code y_Rw_has b_Rw_has 2 (some .boolean) :: zws) rm (.ref (G.1 9) :: As) M (some (.int r)) M2) (hZ : ZZC G s M H locs) (hrc : rm.cells = 0) (hrs : rm.slots = 0) (hR : rm.frames + 1 ≤ R.frames ∧ 8 + (2 + 11) + rm.locals ≤ R.locals) (hls : ls.size = nL) (hAs : As.length = 1) (hW : (rest.map fun v => v.category).sum ≤ 8) (hdg : decode cc pc = .ok (.invokevirtual 104, 3)) (kk : ∀ (H1 : Heap) (locs1 : List Loc), ZZC G s M2 H1 locs1 → W p l e R s m args below meth c H1 locs1 0 0 Q (F0 m (pc + 3) ls (.int r :: rest))) : W p l e R s m args below meth c H locs 0 0 Q (F0 m pc ls (As.reverse ++ .ref (G.1 9) :: rest)) :=
  z_runC (va_runV (As := As) (rest := rest) ⟨hx0, hb, hml, hown, hts⟩ (hM H.size) ⟨zcB hts wc_Rw_has wini_Rw wm_ES_104 (by decide +kernel) hrc hrs hR, hts _ wi_Rw_has, hts _ ws_Rw_has⟩ ⟨zP_blindC, va_recv hZ.2.1.1 hZ.2.2.1 (ci := 1) (q0 := 9) rfl rfl, zP_atC hZ⟩ rfl hAs hls rfl (lv_room hW) hdg ⟨Nat.zero_le _, Nat.zero_le _⟩) hZ kk
theorem k_ES_Rw_at {r : Nat} {rm : Room} {M2 : Mem} (As : List Value) (hx0 : p.tables.exec = Jvm.exec) (hb : c.code = cc) (hml : c.maxLocals = nL) (hts : ∀ w ∈ zws, w.before args s = true) (hown : s.vm.findClass R_ES = some m.cls) (hM : MetZC l G y_Rw_at (Cond.code y_Rw_at b_Rw_at 2 (some (.array .int)) :: zws) rm (.ref (G.1 9) :: As) M (some (.ref r)) M2) (hZ : ZZC G s M H locs) (hrc : rm.cells = 0) (hrs : rm.slots = 0) (hR : rm.frames + 1 ≤ R.frames ∧ 8 + (2 + 11) + rm.locals ≤ R.locals) (hls : ls.size = nL) (hAs : As.length = 1) (hW : (rest.map fun v => v.category).sum ≤ 8) (hdg : decode cc pc = .ok (.invokevirtual 107, 3)) (kk : ∀ (H1 : Heap) (locs1 : List Loc), ZZC G s M2 H1 locs1 → W p l e R s m args below meth c H1 locs1 0 0 Q (F0 m (pc + 3) ls (.ref r :: rest))) : W p l e R s m args below meth c H locs 0 0 Q (F0 m pc ls (As.reverse ++ .ref (G.1 9) :: rest)) :=
  z_runC (va_runV (As := As) (rest := rest) ⟨hx0, hb, hml, hown, hts⟩ (hM H.size) ⟨zcB hts wc_Rw_at wini_Rw wm_ES_107 (by decide +kernel) hrc hrs hR, hts _ wi_Rw_at, hts _ ws_Rw_at⟩ ⟨zP_blindC, va_recv hZ.2.1.1 hZ.2.2.1 (ci := 1) (q0 := 9) rfl rfl, zP_atC hZ⟩ rfl hAs hls rfl (lv_room hW) hdg ⟨Nat.zero_le _, Nat.zero_le _⟩) hZ kk
theorem k_ES_Gr_move {r : Int32} {rm : Room} {M2 : Mem} (As : List Value) (hx0 : p.tables.exec = Jvm.exec) (hb : c.code = cc) (hml : c.maxLocals = nL) (hts : ∀ w ∈ zws, w.before args s = true) (hown : s.vm.findClass R_ES = some m.cls) (hM : MetZC l G y_Gr_move (Cond.code y_Gr_move b_Gr_move 4 (some .int) :: zws) rm (.ref (G.1 17) :: As) M (some (.int r)) M2) (hZ : ZZC G s M H locs) (hrc : rm.cells = 0) (hrs : rm.slots = 0) (hR : rm.frames + 1 ≤ R.frames ∧ 8 + (4 + 11) + rm.locals ≤ R.locals) (hls : ls.size = nL) (hAs : As.length = 2) (hW : (rest.map fun v => v.category).sum ≤ 8) (hdg : decode cc pc = .ok (.invokevirtual 111, 3)) (kk : ∀ (H1 : Heap) (locs1 : List Loc), ZZC G s M2 H1 locs1 → W p l e R s m args below meth c H1 locs1 0 0 Q (F0 m (pc + 3) ls (.int r :: rest))) : W p l e R s m args below meth c H locs 0 0 Q (F0 m pc ls (As.reverse ++ .ref (G.1 17) :: rest)) :=
  z_runC (va_runV (As := As) (rest := rest) ⟨hx0, hb, hml, hown, hts⟩ (hM H.size) ⟨zcB hts wc_Gr_move wini_Gr wm_ES_111 (by decide +kernel) hrc hrs hR, hts _ wi_Gr_move, hts _ ws_Gr_move⟩ ⟨zP_blindC, va_recv hZ.2.1.1 hZ.2.2.1 (ci := 2) (q0 := 17) rfl rfl, zP_atC hZ⟩ rfl hAs hls rfl (lv_room hW) hdg ⟨Nat.zero_le _, Nat.zero_le _⟩) hZ kk
theorem k_ES_Ln_sumFor {r : Int32} {rm : Room} {M2 : Mem} (As : List Value) (hx0 : p.tables.exec = Jvm.exec) (hb : c.code = cc) (hml : c.maxLocals = nL) (hts : ∀ w ∈ zws, w.before args s = true) (hown : s.vm.findClass R_ES = some m.cls) (hM : MetZC l G y_Ln_sumFor (Cond.code y_Ln_sumFor b_Ln_sumFor 4 (some .int) :: zws) rm (.ref (G.1 1) :: As) M (some (.int r)) M2) (hZ : ZZC G s M H locs) (hrc : rm.cells = 0) (hrs : rm.slots = 0) (hR : rm.frames + 1 ≤ R.frames ∧ 8 + (4 + 11) + rm.locals ≤ R.locals) (hls : ls.size = nL) (hAs : As.length = 1) (hW : (rest.map fun v => v.category).sum ≤ 8) (hdg : decode cc pc = .ok (.invokevirtual 116, 3)) (kk : ∀ (H1 : Heap) (locs1 : List Loc), ZZC G s M2 H1 locs1 → W p l e R s m args below meth c H1 locs1 0 0 Q (F0 m (pc + 3) ls (.int r :: rest))) : W p l e R s m args below meth c H locs 0 0 Q (F0 m pc ls (As.reverse ++ .ref (G.1 1) :: rest)) :=
  z_runC (va_runV (As := As) (rest := rest) ⟨hx0, hb, hml, hown, hts⟩ (hM H.size) ⟨zcB hts wc_Ln_sumFor wini_Ln wm_ES_116 (by decide +kernel) hrc hrs hR, hts _ wi_Ln_sumFor, hts _ ws_Ln_sumFor⟩ ⟨zP_blindC, va_recv hZ.2.1.1 hZ.2.2.1 (ci := 0) (q0 := 1) rfl rfl, zP_atC hZ⟩ rfl hAs hls rfl (lv_room hW) hdg ⟨Nat.zero_le _, Nat.zero_le _⟩) hZ kk
theorem k_ES_Gr_count {r : Int32} {rm : Room} {M2 : Mem} (As : List Value) (hx0 : p.tables.exec = Jvm.exec) (hb : c.code = cc) (hml : c.maxLocals = nL) (hts : ∀ w ∈ zws, w.before args s = true) (hown : s.vm.findClass R_ES = some m.cls) (hM : MetZC l G y_Gr_count (Cond.code y_Gr_count b_Gr_count 1 (some .int) :: zws) rm (.ref (G.1 17) :: As) M (some (.int r)) M2) (hZ : ZZC G s M H locs) (hrc : rm.cells = 0) (hrs : rm.slots = 0) (hR : rm.frames + 1 ≤ R.frames ∧ 8 + (1 + 11) + rm.locals ≤ R.locals) (hls : ls.size = nL) (hAs : As.length = 0) (hW : (rest.map fun v => v.category).sum ≤ 8) (hdg : decode cc pc = .ok (.invokevirtual 164, 3)) (kk : ∀ (H1 : Heap) (locs1 : List Loc), ZZC G s M2 H1 locs1 → W p l e R s m args below meth c H1 locs1 0 0 Q (F0 m (pc + 3) ls (.int r :: rest))) : W p l e R s m args below meth c H locs 0 0 Q (F0 m pc ls (As.reverse ++ .ref (G.1 17) :: rest)) :=
  z_runC (va_runV (As := As) (rest := rest) ⟨hx0, hb, hml, hown, hts⟩ (hM H.size) ⟨zcB hts wc_Gr_count wini_Gr wm_ES_164 (by decide +kernel) hrc hrs hR, hts _ wi_Gr_count, hts _ ws_Gr_count⟩ ⟨zP_blindC, va_recv hZ.2.1.1 hZ.2.2.1 (ci := 2) (q0 := 17) rfl rfl, zP_atC hZ⟩ rfl hAs hls rfl (lv_room hW) hdg ⟨Nat.zero_le _, Nat.zero_le _⟩) hZ kk
theorem k_ES_Rw_count {r : Int32} {rm : Room} {M2 : Mem} (As : List Value) (hx0 : p.tables.exec = Jvm.exec) (hb : c.code = cc) (hml : c.maxLocals = nL) (hts : ∀ w ∈ zws, w.before args s = true) (hown : s.vm.findClass R_ES = some m.cls) (hM : MetZC l G y_Rw_count (Cond.code y_Rw_count b_Rw_count 1 (some .int) :: zws) rm (.ref (G.1 9) :: As) M (some (.int r)) M2) (hZ : ZZC G s M H locs) (hrc : rm.cells = 0) (hrs : rm.slots = 0) (hR : rm.frames + 1 ≤ R.frames ∧ 8 + (1 + 11) + rm.locals ≤ R.locals) (hls : ls.size = nL) (hAs : As.length = 0) (hW : (rest.map fun v => v.category).sum ≤ 8) (hdg : decode cc pc = .ok (.invokevirtual 127, 3)) (kk : ∀ (H1 : Heap) (locs1 : List Loc), ZZC G s M2 H1 locs1 → W p l e R s m args below meth c H1 locs1 0 0 Q (F0 m (pc + 3) ls (.int r :: rest))) : W p l e R s m args below meth c H locs 0 0 Q (F0 m pc ls (As.reverse ++ .ref (G.1 9) :: rest)) :=
  z_runC (va_runV (As := As) (rest := rest) ⟨hx0, hb, hml, hown, hts⟩ (hM H.size) ⟨zcB hts wc_Rw_count wini_Rw wm_ES_127 (by decide +kernel) hrc hrs hR, hts _ wi_Rw_count, hts _ ws_Rw_count⟩ ⟨zP_blindC, va_recv hZ.2.1.1 hZ.2.2.1 (ci := 1) (q0 := 9) rfl rfl, zP_atC hZ⟩ rfl hAs hls rfl (lv_room hW) hdg ⟨Nat.zero_le _, Nat.zero_le _⟩) hZ kk
theorem k_ES_Me_measureShares {rm : Room} {M2 : Mem} (As : List Value) (hx0 : p.tables.exec = Jvm.exec) (hb : c.code = cc) (hml : c.maxLocals = nL) (hts : ∀ w ∈ zws, w.before args s = true) (hown : s.vm.findClass R_ES = some m.cls) (hM : MetZC l G y_Me_measureShares (Cond.code y_Me_measureShares b_Me_measureShares 4 none :: zws) rm (.ref (G.1 19) :: As) M none M2) (hZ : ZZC G s M H locs) (hrc : rm.cells = 0) (hrs : rm.slots = 0) (hR : rm.frames + 1 ≤ R.frames ∧ 8 + (4 + 11) + rm.locals ≤ R.locals) (hls : ls.size = nL) (hAs : As.length = 0) (hW : (rest.map fun v => v.category).sum ≤ 8) (hdg : decode cc pc = .ok (.invokevirtual 165, 3)) (kk : ∀ (H1 : Heap) (locs1 : List Loc), ZZC G s M2 H1 locs1 → W p l e R s m args below meth c H1 locs1 0 0 Q (F0 m (pc + 3) ls rest)) : W p l e R s m args below meth c H locs 0 0 Q (F0 m pc ls (As.reverse ++ .ref (G.1 19) :: rest)) :=
  z_runC (va_runV (As := As) (rest := rest) ⟨hx0, hb, hml, hown, hts⟩ (hM H.size) ⟨zcB hts wc_Me_measureShares wini_Me wm_ES_165 (by decide +kernel) hrc hrs hR, hts _ wi_Me_measureShares, hts _ ws_Me_measureShares⟩ ⟨zP_blindC, va_recv hZ.2.1.1 hZ.2.2.1 (ci := 4) (q0 := 19) rfl rfl, zP_atC hZ⟩ rfl hAs hls rfl (lv_room hW) hdg ⟨Nat.zero_le _, Nat.zero_le _⟩) hZ kk
theorem k_ES_Me_groupAtPlace {r : Int32} {rm : Room} {M2 : Mem} (As : List Value) (hx0 : p.tables.exec = Jvm.exec) (hb : c.code = cc) (hml : c.maxLocals = nL) (hts : ∀ w ∈ zws, w.before args s = true) (hown : s.vm.findClass R_ES = some m.cls) (hM : MetZC l G y_Me_groupAtPlace (Cond.code y_Me_groupAtPlace b_Me_groupAtPlace 4 (some .int) :: zws) rm (.ref (G.1 19) :: As) M (some (.int r)) M2) (hZ : ZZC G s M H locs) (hrc : rm.cells = 0) (hrs : rm.slots = 0) (hR : rm.frames + 1 ≤ R.frames ∧ 8 + (4 + 11) + rm.locals ≤ R.locals) (hls : ls.size = nL) (hAs : As.length = 1) (hW : (rest.map fun v => v.category).sum ≤ 8) (hdg : decode cc pc = .ok (.invokevirtual 168, 3)) (kk : ∀ (H1 : Heap) (locs1 : List Loc), ZZC G s M2 H1 locs1 → W p l e R s m args below meth c H1 locs1 0 0 Q (F0 m (pc + 3) ls (.int r :: rest))) : W p l e R s m args below meth c H locs 0 0 Q (F0 m pc ls (As.reverse ++ .ref (G.1 19) :: rest)) :=
  z_runC (va_runV (As := As) (rest := rest) ⟨hx0, hb, hml, hown, hts⟩ (hM H.size) ⟨zcB hts wc_Me_groupAtPlace wini_Me wm_ES_168 (by decide +kernel) hrc hrs hR, hts _ wi_Me_groupAtPlace, hts _ ws_Me_groupAtPlace⟩ ⟨zP_blindC, va_recv hZ.2.1.1 hZ.2.2.1 (ci := 4) (q0 := 19) rfl rfl, zP_atC hZ⟩ rfl hAs hls rfl (lv_room hW) hdg ⟨Nat.zero_le _, Nat.zero_le _⟩) hZ kk
theorem k_ES_Se_setBarred {r : Int32} {rm : Room} {M2 : Mem} (As : List Value) (hx0 : p.tables.exec = Jvm.exec) (hb : c.code = cc) (hml : c.maxLocals = nL) (hts : ∀ w ∈ zws, w.before args s = true) (hown : s.vm.findClass R_ES = some m.cls) (hM : MetZC l G y_Se_setBarred (Cond.code y_Se_setBarred b_Se_setBarred 4 (some .boolean) :: zws) rm (.ref (G.1 24) :: As) M (some (.int r)) M2) (hZ : ZZC G s M H locs) (hrc : rm.cells = 0) (hrs : rm.slots = 0) (hR : rm.frames + 1 ≤ R.frames ∧ 8 + (4 + 11) + rm.locals ≤ R.locals) (hls : ls.size = nL) (hAs : As.length = 2) (hW : (rest.map fun v => v.category).sum ≤ 8) (hdg : decode cc pc = .ok (.invokevirtual 171, 3)) (kk : ∀ (H1 : Heap) (locs1 : List Loc), ZZC G s M2 H1 locs1 → W p l e R s m args below meth c H1 locs1 0 0 Q (F0 m (pc + 3) ls (.int r :: rest))) : W p l e R s m args below meth c H locs 0 0 Q (F0 m pc ls (As.reverse ++ .ref (G.1 24) :: rest)) :=
  z_runC (va_runV (As := As) (rest := rest) ⟨hx0, hb, hml, hown, hts⟩ (hM H.size) ⟨zcB hts wc_Se_setBarred wini_Se wm_ES_171 (by decide +kernel) hrc hrs hR, hts _ wi_Se_setBarred, hts _ ws_Se_setBarred⟩ ⟨zP_blindC, va_recv hZ.2.1.1 hZ.2.2.1 (ci := 5) (q0 := 24) rfl rfl, zP_atC hZ⟩ rfl hAs hls rfl (lv_room hW) hdg ⟨Nat.zero_le _, Nat.zero_le _⟩) hZ kk
theorem k_ES_Se_find {r : Int32} {rm : Room} {M2 : Mem} (As : List Value) (hx0 : p.tables.exec = Jvm.exec) (hb : c.code = cc) (hml : c.maxLocals = nL) (hts : ∀ w ∈ zws, w.before args s = true) (hown : s.vm.findClass R_ES = some m.cls) (hM : MetZC l G y_Se_find (Cond.code y_Se_find b_Se_find 3 (some .boolean) :: zws) rm (.ref (G.1 24) :: As) M (some (.int r)) M2) (hZ : ZZC G s M H locs) (hrc : rm.cells = 0) (hrs : rm.slots = 0) (hR : rm.frames + 1 ≤ R.frames ∧ 8 + (3 + 11) + rm.locals ≤ R.locals) (hls : ls.size = nL) (hAs : As.length = 1) (hW : (rest.map fun v => v.category).sum ≤ 8) (hdg : decode cc pc = .ok (.invokevirtual 175, 3)) (kk : ∀ (H1 : Heap) (locs1 : List Loc), ZZC G s M2 H1 locs1 → W p l e R s m args below meth c H1 locs1 0 0 Q (F0 m (pc + 3) ls (.int r :: rest))) : W p l e R s m args below meth c H locs 0 0 Q (F0 m pc ls (As.reverse ++ .ref (G.1 24) :: rest)) :=
  z_runC (va_runV (As := As) (rest := rest) ⟨hx0, hb, hml, hown, hts⟩ (hM H.size) ⟨zcB hts wc_Se_find wini_Se wm_ES_175 (by decide +kernel) hrc hrs hR, hts _ wi_Se_find, hts _ ws_Se_find⟩ ⟨zP_blindC, va_recv hZ.2.1.1 hZ.2.2.1 (ci := 5) (q0 := 24) rfl rfl, zP_atC hZ⟩ rfl hAs hls rfl (lv_room hW) hdg ⟨Nat.zero_le _, Nat.zero_le _⟩) hZ kk
theorem k_ES_Se_differing {r : Int32} {rm : Room} {M2 : Mem} (As : List Value) (hx0 : p.tables.exec = Jvm.exec) (hb : c.code = cc) (hml : c.maxLocals = nL) (hts : ∀ w ∈ zws, w.before args s = true) (hown : s.vm.findClass R_ES = some m.cls) (hM : MetZC l G y_Se_differing (Cond.code y_Se_differing b_Se_differing 1 (some .int) :: zws) rm (.ref (G.1 24) :: As) M (some (.int r)) M2) (hZ : ZZC G s M H locs) (hrc : rm.cells = 0) (hrs : rm.slots = 0) (hR : rm.frames + 1 ≤ R.frames ∧ 8 + (1 + 11) + rm.locals ≤ R.locals) (hls : ls.size = nL) (hAs : As.length = 0) (hW : (rest.map fun v => v.category).sum ≤ 8) (hdg : decode cc pc = .ok (.invokevirtual 178, 3)) (kk : ∀ (H1 : Heap) (locs1 : List Loc), ZZC G s M2 H1 locs1 → W p l e R s m args below meth c H1 locs1 0 0 Q (F0 m (pc + 3) ls (.int r :: rest))) : W p l e R s m args below meth c H locs 0 0 Q (F0 m pc ls (As.reverse ++ .ref (G.1 24) :: rest)) :=
  z_runC (va_runV (As := As) (rest := rest) ⟨hx0, hb, hml, hown, hts⟩ (hM H.size) ⟨zcB hts wc_Se_differing wini_Se wm_ES_178 (by decide +kernel) hrc hrs hR, hts _ wi_Se_differing, hts _ ws_Se_differing⟩ ⟨zP_blindC, va_recv hZ.2.1.1 hZ.2.2.1 (ci := 5) (q0 := 24) rfl rfl, zP_atC hZ⟩ rfl hAs hls rfl (lv_room hW) hdg ⟨Nat.zero_le _, Nat.zero_le _⟩) hZ kk
theorem k_ES_Se_foundIn {r : Int32} {rm : Room} {M2 : Mem} (As : List Value) (hx0 : p.tables.exec = Jvm.exec) (hb : c.code = cc) (hml : c.maxLocals = nL) (hts : ∀ w ∈ zws, w.before args s = true) (hown : s.vm.findClass R_ES = some m.cls) (hM : MetZC l G y_Se_foundIn (Cond.code y_Se_foundIn b_Se_foundIn 2 (some .int) :: zws) rm (.ref (G.1 24) :: As) M (some (.int r)) M2) (hZ : ZZC G s M H locs) (hrc : rm.cells = 0) (hrs : rm.slots = 0) (hR : rm.frames + 1 ≤ R.frames ∧ 8 + (2 + 11) + rm.locals ≤ R.locals) (hls : ls.size = nL) (hAs : As.length = 1) (hW : (rest.map fun v => v.category).sum ≤ 8) (hdg : decode cc pc = .ok (.invokevirtual 181, 3)) (kk : ∀ (H1 : Heap) (locs1 : List Loc), ZZC G s M2 H1 locs1 → W p l e R s m args below meth c H1 locs1 0 0 Q (F0 m (pc + 3) ls (.int r :: rest))) : W p l e R s m args below meth c H locs 0 0 Q (F0 m pc ls (As.reverse ++ .ref (G.1 24) :: rest)) :=
  z_runC (va_runV (As := As) (rest := rest) ⟨hx0, hb, hml, hown, hts⟩ (hM H.size) ⟨zcB hts wc_Se_foundIn wini_Se wm_ES_181 (by decide +kernel) hrc hrs hR, hts _ wi_Se_foundIn, hts _ ws_Se_foundIn⟩ ⟨zP_blindC, va_recv hZ.2.1.1 hZ.2.2.1 (ci := 5) (q0 := 24) rfl rfl, zP_atC hZ⟩ rfl hAs hls rfl (lv_room hW) hdg ⟨Nat.zero_le _, Nat.zero_le _⟩) hZ kk
theorem k_ES_ES_isPart {r : Int32} {rm : Room} {M2 : Mem} (As : List Value) (hx0 : p.tables.exec = Jvm.exec) (hb : c.code = cc) (hml : c.maxLocals = nL) (hts : ∀ w ∈ zws, w.before args s = true) (hown : s.vm.findClass R_ES = some m.cls) (hM : MetZC l G y_ES_isPart (Cond.code y_ES_isPart b_ES_isPart 1 (some .boolean) :: zws) rm (As) M (some (.int r)) M2) (hZ : ZZC G s M H locs) (hrc : rm.cells = 0) (hrs : rm.slots = 0) (hR : rm.frames + 1 ≤ R.frames ∧ 8 + (1 + 11) + rm.locals ≤ R.locals) (hls : ls.size = nL) (hAs : As.length = 1) (hW : (rest.map fun v => v.category).sum ≤ 8) (hdg : decode cc pc = .ok (.invokestatic 120, 3)) (kk : ∀ (H1 : Heap) (locs1 : List Loc), ZZC G s M2 H1 locs1 → W p l e R s m args below meth c H1 locs1 0 0 Q (F0 m (pc + 3) ls (.int r :: rest))) : W p l e R s m args below meth c H locs 0 0 Q (F0 m pc ls (As.reverse ++ rest)) :=
  z_runC (va_runS (As := As) (rest := rest) ⟨hx0, hb, hml, hown, hts⟩ (hM H.size) ⟨zcB hts wc_ES_isPart wini_ES wm_ES_120 (by decide +kernel) hrc hrs hR, hts _ wst_ES_isPart⟩ ⟨zP_blindC, zP_atC hZ⟩ rfl hAs hls rfl (lv_room hW) hdg ⟨Nat.zero_le _, Nat.zero_le _⟩) hZ kk
theorem k_ES_Me_total {r : Int64} {rm : Room} {M2 : Mem} (As : List Value) (hx0 : p.tables.exec = Jvm.exec) (hb : c.code = cc) (hml : c.maxLocals = nL) (hts : ∀ w ∈ zws, w.before args s = true) (hown : s.vm.findClass R_ES = some m.cls) (hM : MetZC l G y_Me_total (Cond.code y_Me_total b_Me_total 5 (some .long) :: zws) rm (.ref (G.1 19) :: As) M (some (.long r)) M2) (hZ : ZZC G s M H locs) (hrc : rm.cells = 0) (hrs : rm.slots = 0) (hR : rm.frames + 1 ≤ R.frames ∧ 8 + (5 + 11) + rm.locals ≤ R.locals) (hls : ls.size = nL) (hAs : As.length = 1) (hW : (rest.map fun v => v.category).sum ≤ 8) (hdg : decode cc pc = .ok (.invokevirtual 123, 3)) (kk : ∀ (H1 : Heap) (locs1 : List Loc), ZZC G s M2 H1 locs1 → W p l e R s m args below meth c H1 locs1 0 0 Q (F0 m (pc + 3) ls (.long r :: rest))) : W p l e R s m args below meth c H locs 0 0 Q (F0 m pc ls (As.reverse ++ .ref (G.1 19) :: rest)) :=
  z_runC (va_runV (As := As) (rest := rest) ⟨hx0, hb, hml, hown, hts⟩ (hM H.size) ⟨zcB hts wc_Me_total wini_Me wm_ES_123 (by decide +kernel) hrc hrs hR, hts _ wi_Me_total, hts _ ws_Me_total⟩ ⟨zP_blindC, va_recv hZ.2.1.1 hZ.2.2.1 (ci := 4) (q0 := 19) rfl rfl, zP_atC hZ⟩ rfl hAs hls rfl (lv_room hW) hdg ⟨Nat.zero_le _, Nat.zero_le _⟩) hZ kk
theorem k_ES_ES_told {r : Int64} {rm : Room} {M2 : Mem} (As : List Value) (hx0 : p.tables.exec = Jvm.exec) (hb : c.code = cc) (hml : c.maxLocals = nL) (hts : ∀ w ∈ zws, w.before args s = true) (hown : s.vm.findClass R_ES = some m.cls) (hM : MetZC l G y_ES_told (Cond.code y_ES_told b_ES_told 7 (some .long) :: zws) rm (As) M (some (.long r)) M2) (hZ : ZZC G s M H locs) (hrc : rm.cells = 0) (hrs : rm.slots = 0) (hR : rm.frames + 1 ≤ R.frames ∧ 8 + (7 + 11) + rm.locals ≤ R.locals) (hls : ls.size = nL) (hAs : As.length = 3) (hW : (rest.map fun v => v.category).sum ≤ 8) (hdg : decode cc pc = .ok (.invokestatic 130, 3)) (kk : ∀ (H1 : Heap) (locs1 : List Loc), ZZC G s M2 H1 locs1 → W p l e R s m args below meth c H1 locs1 0 0 Q (F0 m (pc + 3) ls (.long r :: rest))) : W p l e R s m args below meth c H locs 0 0 Q (F0 m pc ls (As.reverse ++ rest)) :=
  z_runC (va_runS (As := As) (rest := rest) ⟨hx0, hb, hml, hown, hts⟩ (hM H.size) ⟨zcB hts wc_ES_told wini_ES wm_ES_130 (by decide +kernel) hrc hrs hR, hts _ wst_ES_told⟩ ⟨zP_blindC, zP_atC hZ⟩ rfl hAs hls rfl (lv_room hW) hdg ⟨Nat.zero_le _, Nat.zero_le _⟩) hZ kk
theorem k_ES_ES_commonDivisor {r : Int64} {rm : Room} {M2 : Mem} (As : List Value) (hx0 : p.tables.exec = Jvm.exec) (hb : c.code = cc) (hml : c.maxLocals = nL) (hts : ∀ w ∈ zws, w.before args s = true) (hown : s.vm.findClass R_ES = some m.cls) (hM : MetZC l G y_ES_commonDivisor (Cond.code y_ES_commonDivisor b_ES_commonDivisor 11 (some .long) :: zws) rm (As) M (some (.long r)) M2) (hZ : ZZC G s M H locs) (hrc : rm.cells = 0) (hrs : rm.slots = 0) (hR : rm.frames + 1 ≤ R.frames ∧ 8 + (11 + 11) + rm.locals ≤ R.locals) (hls : ls.size = nL) (hAs : As.length = 2) (hW : (rest.map fun v => v.category).sum ≤ 8) (hdg : decode cc pc = .ok (.invokestatic 195, 3)) (kk : ∀ (H1 : Heap) (locs1 : List Loc), ZZC G s M2 H1 locs1 → W p l e R s m args below meth c H1 locs1 0 0 Q (F0 m (pc + 3) ls (.long r :: rest))) : W p l e R s m args below meth c H locs 0 0 Q (F0 m pc ls (As.reverse ++ rest)) :=
  z_runC (va_runS (As := As) (rest := rest) ⟨hx0, hb, hml, hown, hts⟩ (hM H.size) ⟨zcB hts wc_ES_commonDivisor wini_ES wm_ES_195 (by decide +kernel) hrc hrs hR, hts _ wst_ES_commonDivisor⟩ ⟨zP_blindC, zP_atC hZ⟩ rfl hAs hls rfl (lv_room hW) hdg ⟨Nat.zero_le _, Nat.zero_le _⟩) hZ kk
theorem k_ES_ES_isManner {r : Int32} {rm : Room} {M2 : Mem} (As : List Value) (hx0 : p.tables.exec = Jvm.exec) (hb : c.code = cc) (hml : c.maxLocals = nL) (hts : ∀ w ∈ zws, w.before args s = true) (hown : s.vm.findClass R_ES = some m.cls) (hM : MetZC l G y_ES_isManner (Cond.code y_ES_isManner b_ES_isManner 1 (some .boolean) :: zws) rm (As) M (some (.int r)) M2) (hZ : ZZC G s M H locs) (hrc : rm.cells = 0) (hrs : rm.slots = 0) (hR : rm.frames + 1 ≤ R.frames ∧ 8 + (1 + 11) + rm.locals ≤ R.locals) (hls : ls.size = nL) (hAs : As.length = 1) (hW : (rest.map fun v => v.category).sum ≤ 8) (hdg : decode cc pc = .ok (.invokestatic 134, 3)) (kk : ∀ (H1 : Heap) (locs1 : List Loc), ZZC G s M2 H1 locs1 → W p l e R s m args below meth c H1 locs1 0 0 Q (F0 m (pc + 3) ls (.int r :: rest))) : W p l e R s m args below meth c H locs 0 0 Q (F0 m pc ls (As.reverse ++ rest)) :=
  z_runC (va_runS (As := As) (rest := rest) ⟨hx0, hb, hml, hown, hts⟩ (hM H.size) ⟨zcB hts wc_ES_isManner wini_ES wm_ES_134 (by decide +kernel) hrc hrs hR, hts _ wst_ES_isManner⟩ ⟨zP_blindC, zP_atC hZ⟩ rfl hAs hls rfl (lv_room hW) hdg ⟨Nat.zero_le _, Nat.zero_le _⟩) hZ kk
theorem k_ES_Gr_ofColumn {r : Int32} {rm : Room} {M2 : Mem} (As : List Value) (hx0 : p.tables.exec = Jvm.exec) (hb : c.code = cc) (hml : c.maxLocals = nL) (hts : ∀ w ∈ zws, w.before args s = true) (hown : s.vm.findClass R_ES = some m.cls) (hM : MetZC l G y_Gr_ofColumn (Cond.code y_Gr_ofColumn b_Gr_ofColumn 2 (some .int) :: zws) rm (.ref (G.1 17) :: As) M (some (.int r)) M2) (hZ : ZZC G s M H locs) (hrc : rm.cells = 0) (hrs : rm.slots = 0) (hR : rm.frames + 1 ≤ R.frames ∧ 8 + (2 + 11) + rm.locals ≤ R.locals) (hls : ls.size = nL) (hAs : As.length = 1) (hW : (rest.map fun v => v.category).sum ≤ 8) (hdg : decode cc pc = .ok (.invokevirtual 137, 3)) (kk : ∀ (H1 : Heap) (locs1 : List Loc), ZZC G s M2 H1 locs1 → W p l e R s m args below meth c H1 locs1 0 0 Q (F0 m (pc + 3) ls (.int r :: rest))) : W p l e R s m args below meth c H locs 0 0 Q (F0 m pc ls (As.reverse ++ .ref (G.1 17) :: rest)) :=
  z_runC (va_runV (As := As) (rest := rest) ⟨hx0, hb, hml, hown, hts⟩ (hM H.size) ⟨zcB hts wc_Gr_ofColumn wini_Gr wm_ES_137 (by decide +kernel) hrc hrs hR, hts _ wi_Gr_ofColumn, hts _ ws_Gr_ofColumn⟩ ⟨zP_blindC, va_recv hZ.2.1.1 hZ.2.2.1 (ci := 2) (q0 := 17) rfl rfl, zP_atC hZ⟩ rfl hAs hls rfl (lv_room hW) hdg ⟨Nat.zero_le _, Nat.zero_le _⟩) hZ kk
theorem k_ES_Me_shareSum {r : Int64} {rm : Room} {M2 : Mem} (As : List Value) (hx0 : p.tables.exec = Jvm.exec) (hb : c.code = cc) (hml : c.maxLocals = nL) (hts : ∀ w ∈ zws, w.before args s = true) (hown : s.vm.findClass R_ES = some m.cls) (hM : MetZC l G y_Me_shareSum (Cond.code y_Me_shareSum b_Me_shareSum 11 (some .long) :: zws) rm (.ref (G.1 19) :: As) M (some (.long r)) M2) (hZ : ZZC G s M H locs) (hrc : rm.cells = 0) (hrs : rm.slots = 0) (hR : rm.frames + 1 ≤ R.frames ∧ 8 + (11 + 11) + rm.locals ≤ R.locals) (hls : ls.size = nL) (hAs : As.length = 2) (hW : (rest.map fun v => v.category).sum ≤ 8) (hdg : decode cc pc = .ok (.invokevirtual 140, 3)) (kk : ∀ (H1 : Heap) (locs1 : List Loc), ZZC G s M2 H1 locs1 → W p l e R s m args below meth c H1 locs1 0 0 Q (F0 m (pc + 3) ls (.long r :: rest))) : W p l e R s m args below meth c H locs 0 0 Q (F0 m pc ls (As.reverse ++ .ref (G.1 19) :: rest)) :=
  z_runC (va_runV (As := As) (rest := rest) ⟨hx0, hb, hml, hown, hts⟩ (hM H.size) ⟨zcB hts wc_Me_shareSum wini_Me wm_ES_140 (by decide +kernel) hrc hrs hR, hts _ wi_Me_shareSum, hts _ ws_Me_shareSum⟩ ⟨zP_blindC, va_recv hZ.2.1.1 hZ.2.2.1 (ci := 4) (q0 := 19) rfl rfl, zP_atC hZ⟩ rfl hAs hls rfl (lv_room hW) hdg ⟨Nat.zero_le _, Nat.zero_le _⟩) hZ kk
theorem k_ES_Me_shareWays {r : Int64} {rm : Room} {M2 : Mem} (As : List Value) (hx0 : p.tables.exec = Jvm.exec) (hb : c.code = cc) (hml : c.maxLocals = nL) (hts : ∀ w ∈ zws, w.before args s = true) (hown : s.vm.findClass R_ES = some m.cls) (hM : MetZC l G y_Me_shareWays (Cond.code y_Me_shareWays b_Me_shareWays 3 (some .long) :: zws) rm (.ref (G.1 19) :: As) M (some (.long r)) M2) (hZ : ZZC G s M H locs) (hrc : rm.cells = 0) (hrs : rm.slots = 0) (hR : rm.frames + 1 ≤ R.frames ∧ 8 + (3 + 11) + rm.locals ≤ R.locals) (hls : ls.size = nL) (hAs : As.length = 1) (hW : (rest.map fun v => v.category).sum ≤ 8) (hdg : decode cc pc = .ok (.invokevirtual 144, 3)) (kk : ∀ (H1 : Heap) (locs1 : List Loc), ZZC G s M2 H1 locs1 → W p l e R s m args below meth c H1 locs1 0 0 Q (F0 m (pc + 3) ls (.long r :: rest))) : W p l e R s m args below meth c H locs 0 0 Q (F0 m pc ls (As.reverse ++ .ref (G.1 19) :: rest)) :=
  z_runC (va_runV (As := As) (rest := rest) ⟨hx0, hb, hml, hown, hts⟩ (hM H.size) ⟨zcB hts wc_Me_shareWays wini_Me wm_ES_144 (by decide +kernel) hrc hrs hR, hts _ wi_Me_shareWays, hts _ ws_Me_shareWays⟩ ⟨zP_blindC, va_recv hZ.2.1.1 hZ.2.2.1 (ci := 4) (q0 := 19) rfl rfl, zP_atC hZ⟩ rfl hAs hls rfl (lv_room hW) hdg ⟨Nat.zero_le _, Nat.zero_le _⟩) hZ kk
theorem k_ES_Me_togetherSum {r : Int64} {rm : Room} {M2 : Mem} (As : List Value) (hx0 : p.tables.exec = Jvm.exec) (hb : c.code = cc) (hml : c.maxLocals = nL) (hts : ∀ w ∈ zws, w.before args s = true) (hown : s.vm.findClass R_ES = some m.cls) (hM : MetZC l G y_Me_togetherSum (Cond.code y_Me_togetherSum b_Me_togetherSum 13 (some .long) :: zws) rm (.ref (G.1 19) :: As) M (some (.long r)) M2) (hZ : ZZC G s M H locs) (hrc : rm.cells = 0) (hrs : rm.slots = 0) (hR : rm.frames + 1 ≤ R.frames ∧ 8 + (13 + 11) + rm.locals ≤ R.locals) (hls : ls.size = nL) (hAs : As.length = 2) (hW : (rest.map fun v => v.category).sum ≤ 8) (hdg : decode cc pc = .ok (.invokevirtual 147, 3)) (kk : ∀ (H1 : Heap) (locs1 : List Loc), ZZC G s M2 H1 locs1 → W p l e R s m args below meth c H1 locs1 0 0 Q (F0 m (pc + 3) ls (.long r :: rest))) : W p l e R s m args below meth c H locs 0 0 Q (F0 m pc ls (As.reverse ++ .ref (G.1 19) :: rest)) :=
  z_runC (va_runV (As := As) (rest := rest) ⟨hx0, hb, hml, hown, hts⟩ (hM H.size) ⟨zcB hts wc_Me_togetherSum wini_Me wm_ES_147 (by decide +kernel) hrc hrs hR, hts _ wi_Me_togetherSum, hts _ ws_Me_togetherSum⟩ ⟨zP_blindC, va_recv hZ.2.1.1 hZ.2.2.1 (ci := 4) (q0 := 19) rfl rfl, zP_atC hZ⟩ rfl hAs hls rfl (lv_room hW) hdg ⟨Nat.zero_le _, Nat.zero_le _⟩) hZ kk
theorem k_ES_Me_togetherWays {r : Int64} {rm : Room} {M2 : Mem} (As : List Value) (hx0 : p.tables.exec = Jvm.exec) (hb : c.code = cc) (hml : c.maxLocals = nL) (hts : ∀ w ∈ zws, w.before args s = true) (hown : s.vm.findClass R_ES = some m.cls) (hM : MetZC l G y_Me_togetherWays (Cond.code y_Me_togetherWays b_Me_togetherWays 1 (some .long) :: zws) rm (.ref (G.1 19) :: As) M (some (.long r)) M2) (hZ : ZZC G s M H locs) (hrc : rm.cells = 0) (hrs : rm.slots = 0) (hR : rm.frames + 1 ≤ R.frames ∧ 8 + (1 + 11) + rm.locals ≤ R.locals) (hls : ls.size = nL) (hAs : As.length = 0) (hW : (rest.map fun v => v.category).sum ≤ 8) (hdg : decode cc pc = .ok (.invokevirtual 150, 3)) (kk : ∀ (H1 : Heap) (locs1 : List Loc), ZZC G s M2 H1 locs1 → W p l e R s m args below meth c H1 locs1 0 0 Q (F0 m (pc + 3) ls (.long r :: rest))) : W p l e R s m args below meth c H locs 0 0 Q (F0 m pc ls (As.reverse ++ .ref (G.1 19) :: rest)) :=
  z_runC (va_runV (As := As) (rest := rest) ⟨hx0, hb, hml, hown, hts⟩ (hM H.size) ⟨zcB hts wc_Me_togetherWays wini_Me wm_ES_150 (by decide +kernel) hrc hrs hR, hts _ wi_Me_togetherWays, hts _ ws_Me_togetherWays⟩ ⟨zP_blindC, va_recv hZ.2.1.1 hZ.2.2.1 (ci := 4) (q0 := 19) rfl rfl, zP_atC hZ⟩ rfl hAs hls rfl (lv_room hW) hdg ⟨Nat.zero_le _, Nat.zero_le _⟩) hZ kk
theorem k_ES_Me_drawnSum {r : Int64} {rm : Room} {M2 : Mem} (As : List Value) (hx0 : p.tables.exec = Jvm.exec) (hb : c.code = cc) (hml : c.maxLocals = nL) (hts : ∀ w ∈ zws, w.before args s = true) (hown : s.vm.findClass R_ES = some m.cls) (hM : MetZC l G y_Me_drawnSum (Cond.code y_Me_drawnSum b_Me_drawnSum 8 (some .long) :: zws) rm (.ref (G.1 19) :: As) M (some (.long r)) M2) (hZ : ZZC G s M H locs) (hrc : rm.cells = 0) (hrs : rm.slots = 0) (hR : rm.frames + 1 ≤ R.frames ∧ 8 + (8 + 11) + rm.locals ≤ R.locals) (hls : ls.size = nL) (hAs : As.length = 3) (hW : (rest.map fun v => v.category).sum ≤ 8) (hdg : decode cc pc = .ok (.invokevirtual 154, 3)) (kk : ∀ (H1 : Heap) (locs1 : List Loc), ZZC G s M2 H1 locs1 → W p l e R s m args below meth c H1 locs1 0 0 Q (F0 m (pc + 3) ls (.long r :: rest))) : W p l e R s m args below meth c H locs 0 0 Q (F0 m pc ls (As.reverse ++ .ref (G.1 19) :: rest)) :=
  z_runC (va_runV (As := As) (rest := rest) ⟨hx0, hb, hml, hown, hts⟩ (hM H.size) ⟨zcB hts wc_Me_drawnSum wini_Me wm_ES_154 (by decide +kernel) hrc hrs hR, hts _ wi_Me_drawnSum, hts _ ws_Me_drawnSum⟩ ⟨zP_blindC, va_recv hZ.2.1.1 hZ.2.2.1 (ci := 4) (q0 := 19) rfl rfl, zP_atC hZ⟩ rfl hAs hls rfl (lv_room hW) hdg ⟨Nat.zero_le _, Nat.zero_le _⟩) hZ kk
theorem k_ES_Me_replacedSum {r : Int64} {rm : Room} {M2 : Mem} (As : List Value) (hx0 : p.tables.exec = Jvm.exec) (hb : c.code = cc) (hml : c.maxLocals = nL) (hts : ∀ w ∈ zws, w.before args s = true) (hown : s.vm.findClass R_ES = some m.cls) (hM : MetZC l G y_Me_replacedSum (Cond.code y_Me_replacedSum b_Me_replacedSum 6 (some .long) :: zws) rm (.ref (G.1 19) :: As) M (some (.long r)) M2) (hZ : ZZC G s M H locs) (hrc : rm.cells = 0) (hrs : rm.slots = 0) (hR : rm.frames + 1 ≤ R.frames ∧ 8 + (6 + 11) + rm.locals ≤ R.locals) (hls : ls.size = nL) (hAs : As.length = 2) (hW : (rest.map fun v => v.category).sum ≤ 8) (hdg : decode cc pc = .ok (.invokevirtual 158, 3)) (kk : ∀ (H1 : Heap) (locs1 : List Loc), ZZC G s M2 H1 locs1 → W p l e R s m args below meth c H1 locs1 0 0 Q (F0 m (pc + 3) ls (.long r :: rest))) : W p l e R s m args below meth c H locs 0 0 Q (F0 m pc ls (As.reverse ++ .ref (G.1 19) :: rest)) :=
  z_runC (va_runV (As := As) (rest := rest) ⟨hx0, hb, hml, hown, hts⟩ (hM H.size) ⟨zcB hts wc_Me_replacedSum wini_Me wm_ES_158 (by decide +kernel) hrc hrs hR, hts _ wi_Me_replacedSum, hts _ ws_Me_replacedSum⟩ ⟨zP_blindC, va_recv hZ.2.1.1 hZ.2.2.1 (ci := 4) (q0 := 19) rfl rfl, zP_atC hZ⟩ rfl hAs hls rfl (lv_room hW) hdg ⟨Nat.zero_le _, Nat.zero_le _⟩) hZ kk
theorem k_ES_Me_changeSum {r : Int64} {rm : Room} {M2 : Mem} (As : List Value) (hx0 : p.tables.exec = Jvm.exec) (hb : c.code = cc) (hml : c.maxLocals = nL) (hts : ∀ w ∈ zws, w.before args s = true) (hown : s.vm.findClass R_ES = some m.cls) (hM : MetZC l G y_Me_changeSum (Cond.code y_Me_changeSum b_Me_changeSum 11 (some .long) :: zws) rm (.ref (G.1 19) :: As) M (some (.long r)) M2) (hZ : ZZC G s M H locs) (hrc : rm.cells = 0) (hrs : rm.slots = 0) (hR : rm.frames + 1 ≤ R.frames ∧ 8 + (11 + 11) + rm.locals ≤ R.locals) (hls : ls.size = nL) (hAs : As.length = 1) (hW : (rest.map fun v => v.category).sum ≤ 8) (hdg : decode cc pc = .ok (.invokevirtual 161, 3)) (kk : ∀ (H1 : Heap) (locs1 : List Loc), ZZC G s M2 H1 locs1 → W p l e R s m args below meth c H1 locs1 0 0 Q (F0 m (pc + 3) ls (.long r :: rest))) : W p l e R s m args below meth c H locs 0 0 Q (F0 m pc ls (As.reverse ++ .ref (G.1 19) :: rest)) :=
  z_runC (va_runV (As := As) (rest := rest) ⟨hx0, hb, hml, hown, hts⟩ (hM H.size) ⟨zcB hts wc_Me_changeSum wini_Me wm_ES_161 (by decide +kernel) hrc hrs hR, hts _ wi_Me_changeSum, hts _ ws_Me_changeSum⟩ ⟨zP_blindC, va_recv hZ.2.1.1 hZ.2.2.1 (ci := 4) (q0 := 19) rfl rfl, zP_atC hZ⟩ rfl hAs hls rfl (lv_room hW) hdg ⟨Nat.zero_le _, Nat.zero_le _⟩) hZ kk
theorem m_min_ES {x y : Int32} {lv : List (Nat × Value)} (hx0 : p.tables.exec = Jvm.exec) (hb : c.code = cc) (hml : c.maxLocals = nL) (hts : ∀ w ∈ zws, w.before args s = true) (hown : s.vm.findClass R_ES = some m.cls) (hl : lv_has ls nL lv) (hR : 1 ≤ R.frames ∧ 32 ≤ R.locals) (hW : (rest.map fun v => v.category).sum ≤ 8) (hdg : decode cc pc = .ok (.invokestatic 9, 3)) (kk : W p l e R s m args below meth c H locs 0 0 Q (F0 m (pc + 3) ls (.int (if y < x then y else x) :: rest))) : W p l e R s m args below meth c H locs 0 0 Q (F0 m pc ls (.int y :: .int x :: rest)) :=
  va_mmin hx0 hb (hml.trans hl.1.symm) hown (hts _ wm_ES_9) (hts _ wst_min) (hts _ wini_Math) (hts _ wc_min) hR.1 (by omega) (Nat.zero_le _) (Nat.zero_le _) hdg kk
theorem m_max_ES {x y : Int32} {lv : List (Nat × Value)} (hx0 : p.tables.exec = Jvm.exec) (hb : c.code = cc) (hml : c.maxLocals = nL) (hts : ∀ w ∈ zws, w.before args s = true) (hown : s.vm.findClass R_ES = some m.cls) (hl : lv_has ls nL lv) (hR : 1 ≤ R.frames ∧ 32 ≤ R.locals) (hW : (rest.map fun v => v.category).sum ≤ 8) (hdg : decode cc pc = .ok (.invokestatic 15, 3)) (kk : W p l e R s m args below meth c H locs 0 0 Q (F0 m (pc + 3) ls (.int (if x < y then y else x) :: rest))) : W p l e R s m args below meth c H locs 0 0 Q (F0 m pc ls (.int y :: .int x :: rest)) :=
  va_mmax hx0 hb (hml.trans hl.1.symm) hown (hts _ wm_ES_15) (hts _ wst_max) (hts _ wini_Math) (hts _ wc_max) hR.1 (by omega) (Nat.zero_le _) (Nat.zero_le _) hdg kk
theorem m_abs_long_Me {x : Int64} {lv : List (Nat × Value)} (hx0 : p.tables.exec = Jvm.exec) (hb : c.code = cc) (hml : c.maxLocals = nL) (hts : ∀ w ∈ zws, w.before args s = true) (hown : s.vm.findClass R_Me = some m.cls) (hl : lv_has ls nL lv) (hR : 1 ≤ R.frames ∧ 32 ≤ R.locals) (hW : (rest.map fun v => v.category).sum ≤ 8) (hdg : decode cc pc = .ok (.invokestatic 106, 3)) (kk : W p l e R s m args below meth c H locs 0 0 Q (F0 m (pc + 3) ls (.long (if 0 < x then x else -x) :: rest))) : W p l e R s m args below meth c H locs 0 0 Q (F0 m pc ls (.long x :: rest)) :=
  va_mabs_long hx0 hb (hml.trans hl.1.symm) hown (hts _ wm_Me_106) (hts _ wst_abs_long) (hts _ wini_Math) (hts _ wc_abs_long) hR.1 (by omega) (Nat.zero_le _) (Nat.zero_le _) hdg kk
theorem m_max_Ln {x y : Int32} {lv : List (Nat × Value)} (hx0 : p.tables.exec = Jvm.exec) (hb : c.code = cc) (hml : c.maxLocals = nL) (hts : ∀ w ∈ zws, w.before args s = true) (hown : s.vm.findClass R_Ln = some m.cls) (hl : lv_has ls nL lv) (hR : 1 ≤ R.frames ∧ 32 ≤ R.locals) (hW : (rest.map fun v => v.category).sum ≤ 8) (hdg : decode cc pc = .ok (.invokestatic 52, 3)) (kk : W p l e R s m args below meth c H locs 0 0 Q (F0 m (pc + 3) ls (.int (if x < y then y else x) :: rest))) : W p l e R s m args below meth c H locs 0 0 Q (F0 m pc ls (.int y :: .int x :: rest)) :=
  va_mmax hx0 hb (hml.trans hl.1.symm) hown (hts _ wm_Ln_52) (hts _ wst_max) (hts _ wini_Math) (hts _ wc_max) hR.1 (by omega) (Nat.zero_le _) (Nat.zero_le _) hdg kk
theorem m_abs_Se {x : Int32} {lv : List (Nat × Value)} (hx0 : p.tables.exec = Jvm.exec) (hb : c.code = cc) (hml : c.maxLocals = nL) (hts : ∀ w ∈ zws, w.before args s = true) (hown : s.vm.findClass R_Se = some m.cls) (hl : lv_has ls nL lv) (hR : 1 ≤ R.frames ∧ 32 ≤ R.locals) (hW : (rest.map fun v => v.category).sum ≤ 8) (hdg : decode cc pc = .ok (.invokestatic 92, 3)) (kk : W p l e R s m args below meth c H locs 0 0 Q (F0 m (pc + 3) ls (.int (if 0 ≤ x then x else 0 - x) :: rest))) : W p l e R s m args below meth c H locs 0 0 Q (F0 m pc ls (.int x :: rest)) :=
  va_mabs hx0 hb (hml.trans hl.1.symm) hown (hts _ wm_Se_92) (hts _ wst_abs) (hts _ wini_Math) (hts _ wc_abs) hR.1 (by omega) (Nat.zero_le _) (Nat.zero_le _) hdg kk
theorem m_abs_long_ES {x : Int64} {lv : List (Nat × Value)} (hx0 : p.tables.exec = Jvm.exec) (hb : c.code = cc) (hml : c.maxLocals = nL) (hts : ∀ w ∈ zws, w.before args s = true) (hown : s.vm.findClass R_ES = some m.cls) (hl : lv_has ls nL lv) (hR : 1 ≤ R.frames ∧ 32 ≤ R.locals) (hW : (rest.map fun v => v.category).sum ≤ 8) (hdg : decode cc pc = .ok (.invokestatic 191, 3)) (kk : W p l e R s m args below meth c H locs 0 0 Q (F0 m (pc + 3) ls (.long (if 0 < x then x else -x) :: rest))) : W p l e R s m args below meth c H locs 0 0 Q (F0 m pc ls (.long x :: rest)) :=
  va_mabs_long hx0 hb (hml.trans hl.1.symm) hown (hts _ wm_ES_191) (hts _ wst_abs_long) (hts _ wini_Math) (hts _ wc_abs_long) hR.1 (by omega) (Nat.zero_le _) (Nat.zero_le _) hdg kk
end ZCC
section ZCT
variable {p : Program} {l : Launch} {e : Env} {R : Room} {s : State} {m : MethodId} {args : Array Value} {below : List Frame} {meth : Method} {c : Code} {H : Heap} {locs : List Loc} {cells slots : Nat} {Q : State → Prop}
variable {cc : ByteArray} {pc nL : Nat} {ls : Array Slot} {rest : List Value} {G : zG} {M : Mem}
theorem k_Md_Md_in {r : Int32} {rm : Room} {M2 : Mem} (As : List Value) (hx0 : p.tables.exec = Jvm.exec) (hb : c.code = cc) (hml : c.maxLocals = nL) (hts : ∀ w ∈ zws, w.before args s = true) (hown : s.vm.findClass R_Md = some m.cls) (hM : MetZT l G y_Md_in (Cond.code y_Md_in b_Md_in 3 (some .boolean) :: zws) rm (As) M (some (.int r)) M2) (hZ : ZZT G s M H locs) (hrc : rm.cells = 0) (hrs : rm.slots = 0) (hR : rm.frames + 1 ≤ R.frames ∧ 8 + (3 + 11) + rm.locals ≤ R.locals) (hls : ls.size = nL) (hAs : As.length = 3) (hW : (rest.map fun v => v.category).sum ≤ 8) (hdg : decode cc pc = .ok (.invokestatic 74, 3)) (kk : ∀ (H1 : Heap) (locs1 : List Loc), ZZT G s M2 H1 locs1 → W p l e R s m args below meth c H1 locs1 0 0 Q (F0 m (pc + 3) ls (.int r :: rest))) : W p l e R s m args below meth c H locs 0 0 Q (F0 m pc ls (As.reverse ++ rest)) :=
  z_runT (va_runS (As := As) (rest := rest) ⟨hx0, hb, hml, hown, hts⟩ (hM H.size) ⟨zcB hts wc_Md_in wini_Md wm_Md_74 (by decide +kernel) hrc hrs hR, hts _ wst_Md_in⟩ ⟨zP_blindT, zP_atT hZ⟩ rfl hAs hls rfl (lv_room hW) hdg ⟨Nat.zero_le _, Nat.zero_le _⟩) hZ kk
theorem k_Md_Md_isColumn {r : Int32} {rm : Room} {M2 : Mem} (As : List Value) (hx0 : p.tables.exec = Jvm.exec) (hb : c.code = cc) (hml : c.maxLocals = nL) (hts : ∀ w ∈ zws, w.before args s = true) (hown : s.vm.findClass R_Md = some m.cls) (hM : MetZT l G y_Md_isColumn (Cond.code y_Md_isColumn b_Md_isColumn 2 (some .boolean) :: zws) rm (.ref (G.1 0) :: As) M (some (.int r)) M2) (hZ : ZZT G s M H locs) (hrc : rm.cells = 0) (hrs : rm.slots = 0) (hR : rm.frames + 1 ≤ R.frames ∧ 8 + (2 + 11) + rm.locals ≤ R.locals) (hls : ls.size = nL) (hAs : As.length = 1) (hW : (rest.map fun v => v.category).sum ≤ 8) (hdg : decode cc pc = .ok (.invokevirtual 81, 3)) (kk : ∀ (H1 : Heap) (locs1 : List Loc), ZZT G s M2 H1 locs1 → W p l e R s m args below meth c H1 locs1 0 0 Q (F0 m (pc + 3) ls (.int r :: rest))) : W p l e R s m args below meth c H locs 0 0 Q (F0 m pc ls (As.reverse ++ .ref (G.1 0) :: rest)) :=
  z_runT (va_runV (As := As) (rest := rest) ⟨hx0, hb, hml, hown, hts⟩ (hM H.size) ⟨zcB hts wc_Md_isColumn wini_Md wm_Md_81 (by decide +kernel) hrc hrs hR, hts _ wi_Md_isColumn, hts _ ws_Md_isColumn⟩ ⟨zP_blindT, va_recv hZ.2.1.1 hZ.2.2.1 (ci := 7) (q0 := 0) rfl rfl, zP_atT hZ⟩ rfl hAs hls rfl (lv_room hW) hdg ⟨Nat.zero_le _, Nat.zero_le _⟩) hZ kk
theorem k_Md_Md_take {rm : Room} {M2 : Mem} (As : List Value) (hx0 : p.tables.exec = Jvm.exec) (hb : c.code = cc) (hml : c.maxLocals = nL) (hts : ∀ w ∈ zws, w.before args s = true) (hown : s.vm.findClass R_Md = some m.cls) (hM : MetZT l G y_Md_take (Cond.code y_Md_take b_Md_take 3 none :: zws) rm (.ref (G.1 0) :: As) M none M2) (hZ : ZZT G s M H locs) (hrc : rm.cells = 0) (hrs : rm.slots = 0) (hR : rm.frames + 1 ≤ R.frames ∧ 8 + (3 + 11) + rm.locals ≤ R.locals) (hls : ls.size = nL) (hAs : As.length = 1) (hW : (rest.map fun v => v.category).sum ≤ 8) (hdg : decode cc pc = .ok (.invokevirtual 93, 3)) (kk : ∀ (H1 : Heap) (locs1 : List Loc), ZZT G s M2 H1 locs1 → W p l e R s m args below meth c H1 locs1 0 0 Q (F0 m (pc + 3) ls rest)) : W p l e R s m args below meth c H locs 0 0 Q (F0 m pc ls (As.reverse ++ .ref (G.1 0) :: rest)) :=
  z_runT (va_runV (As := As) (rest := rest) ⟨hx0, hb, hml, hown, hts⟩ (hM H.size) ⟨zcB hts wc_Md_take wini_Md wm_Md_93 (by decide +kernel) hrc hrs hR, hts _ wi_Md_take, hts _ ws_Md_take⟩ ⟨zP_blindT, va_recv hZ.2.1.1 hZ.2.2.1 (ci := 7) (q0 := 0) rfl rfl, zP_atT hZ⟩ rfl hAs hls rfl (lv_room hW) hdg ⟨Nat.zero_le _, Nat.zero_le _⟩) hZ kk
theorem k_Md_Md_answerNow {r : Int64} {rm : Room} {M2 : Mem} (As : List Value) (hx0 : p.tables.exec = Jvm.exec) (hb : c.code = cc) (hml : c.maxLocals = nL) (hts : ∀ w ∈ zws, w.before args s = true) (hown : s.vm.findClass R_Md = some m.cls) (hM : MetZT l G y_Md_answerNow (Cond.code y_Md_answerNow b_Md_answerNow 5 (some .long) :: zws) rm (.ref (G.1 0) :: As) M (some (.long r)) M2) (hZ : ZZT G s M H locs) (hrc : rm.cells = 0) (hrs : rm.slots = 0) (hR : rm.frames + 1 ≤ R.frames ∧ 8 + (5 + 11) + rm.locals ≤ R.locals) (hls : ls.size = nL) (hAs : As.length = 0) (hW : (rest.map fun v => v.category).sum ≤ 8) (hdg : decode cc pc = .ok (.invokevirtual 97, 3)) (kk : ∀ (H1 : Heap) (locs1 : List Loc), ZZT G s M2 H1 locs1 → W p l e R s m args below meth c H1 locs1 0 0 Q (F0 m (pc + 3) ls (.long r :: rest))) : W p l e R s m args below meth c H locs 0 0 Q (F0 m pc ls (As.reverse ++ .ref (G.1 0) :: rest)) :=
  z_runT (va_runV (As := As) (rest := rest) ⟨hx0, hb, hml, hown, hts⟩ (hM H.size) ⟨zcB hts wc_Md_answerNow wini_Md wm_Md_97 (by decide +kernel) hrc hrs hR, hts _ wi_Md_answerNow, hts _ ws_Md_answerNow⟩ ⟨zP_blindT, va_recv hZ.2.1.1 hZ.2.2.1 (ci := 7) (q0 := 0) rfl rfl, zP_atT hZ⟩ rfl hAs hls rfl (lv_room hW) hdg ⟨Nat.zero_le _, Nat.zero_le _⟩) hZ kk
theorem k_Md_Md_throwsNow {r : Int32} {rm : Room} {M2 : Mem} (As : List Value) (hx0 : p.tables.exec = Jvm.exec) (hb : c.code = cc) (hml : c.maxLocals = nL) (hts : ∀ w ∈ zws, w.before args s = true) (hown : s.vm.findClass R_Md = some m.cls) (hM : MetZT l G y_Md_throwsNow (Cond.code y_Md_throwsNow b_Md_throwsNow 1 (some .boolean) :: zws) rm (.ref (G.1 0) :: As) M (some (.int r)) M2) (hZ : ZZT G s M H locs) (hrc : rm.cells = 0) (hrs : rm.slots = 0) (hR : rm.frames + 1 ≤ R.frames ∧ 8 + (1 + 11) + rm.locals ≤ R.locals) (hls : ls.size = nL) (hAs : As.length = 0) (hW : (rest.map fun v => v.category).sum ≤ 8) (hdg : decode cc pc = .ok (.invokevirtual 101, 3)) (kk : ∀ (H1 : Heap) (locs1 : List Loc), ZZT G s M2 H1 locs1 → W p l e R s m args below meth c H1 locs1 0 0 Q (F0 m (pc + 3) ls (.int r :: rest))) : W p l e R s m args below meth c H locs 0 0 Q (F0 m pc ls (As.reverse ++ .ref (G.1 0) :: rest)) :=
  z_runT (va_runV (As := As) (rest := rest) ⟨hx0, hb, hml, hown, hts⟩ (hM H.size) ⟨zcB hts wc_Md_throwsNow wini_Md wm_Md_101 (by decide +kernel) hrc hrs hR, hts _ wi_Md_throwsNow, hts _ ws_Md_throwsNow⟩ ⟨zP_blindT, va_recv hZ.2.1.1 hZ.2.2.1 (ci := 7) (q0 := 0) rfl rfl, zP_atT hZ⟩ rfl hAs hls rfl (lv_room hW) hdg ⟨Nat.zero_le _, Nat.zero_le _⟩) hZ kk
theorem k_Md_Md_sumAll {rm : Room} {M2 : Mem} (As : List Value) (hx0 : p.tables.exec = Jvm.exec) (hb : c.code = cc) (hml : c.maxLocals = nL) (hts : ∀ w ∈ zws, w.before args s = true) (hown : s.vm.findClass R_Md = some m.cls) (hM : MetZT l G y_Md_sumAll (Cond.code y_Md_sumAll b_Md_sumAll 4 none :: zws) rm (.ref (G.1 0) :: As) M none M2) (hZ : ZZT G s M H locs) (hrc : rm.cells = 0) (hrs : rm.slots = 0) (hR : rm.frames + 1 ≤ R.frames ∧ 8 + (4 + 11) + rm.locals ≤ R.locals) (hls : ls.size = nL) (hAs : As.length = 0) (hW : (rest.map fun v => v.category).sum ≤ 8) (hdg : decode cc pc = .ok (.invokevirtual 105, 3)) (kk : ∀ (H1 : Heap) (locs1 : List Loc), ZZT G s M2 H1 locs1 → W p l e R s m args below meth c H1 locs1 0 0 Q (F0 m (pc + 3) ls rest)) : W p l e R s m args below meth c H locs 0 0 Q (F0 m pc ls (As.reverse ++ .ref (G.1 0) :: rest)) :=
  z_runT (va_runV (As := As) (rest := rest) ⟨hx0, hb, hml, hown, hts⟩ (hM H.size) ⟨zcB hts wc_Md_sumAll wini_Md wm_Md_105 (by decide +kernel) hrc hrs hR, hts _ wi_Md_sumAll, hts _ ws_Md_sumAll⟩ ⟨zP_blindT, va_recv hZ.2.1.1 hZ.2.2.1 (ci := 7) (q0 := 0) rfl rfl, zP_atT hZ⟩ rfl hAs hls rfl (lv_room hW) hdg ⟨Nat.zero_le _, Nat.zero_le _⟩) hZ kk
theorem k_Md_Md_part {r : Int64} {rm : Room} {M2 : Mem} (As : List Value) (hx0 : p.tables.exec = Jvm.exec) (hb : c.code = cc) (hml : c.maxLocals = nL) (hts : ∀ w ∈ zws, w.before args s = true) (hown : s.vm.findClass R_Md = some m.cls) (hM : MetZT l G y_Md_part (Cond.code y_Md_part b_Md_part 11 (some .long) :: zws) rm (As) M (some (.long r)) M2) (hZ : ZZT G s M H locs) (hrc : rm.cells = 0) (hrs : rm.slots = 0) (hR : rm.frames + 1 ≤ R.frames ∧ 8 + (11 + 11) + rm.locals ≤ R.locals) (hls : ls.size = nL) (hAs : As.length = 3) (hW : (rest.map fun v => v.category).sum ≤ 8) (hdg : decode cc pc = .ok (.invokestatic 108, 3)) (kk : ∀ (H1 : Heap) (locs1 : List Loc), ZZT G s M2 H1 locs1 → W p l e R s m args below meth c H1 locs1 0 0 Q (F0 m (pc + 3) ls (.long r :: rest))) : W p l e R s m args below meth c H locs 0 0 Q (F0 m pc ls (As.reverse ++ rest)) :=
  z_runT (va_runS (As := As) (rest := rest) ⟨hx0, hb, hml, hown, hts⟩ (hM H.size) ⟨zcB hts wc_Md_part wini_Md wm_Md_108 (by decide +kernel) hrc hrs hR, hts _ wst_Md_part⟩ ⟨zP_blindT, zP_atT hZ⟩ rfl hAs hls rfl (lv_room hW) hdg ⟨Nat.zero_le _, Nat.zero_le _⟩) hZ kk
theorem k_Md_Md_groupBits {r : Int32} {rm : Room} {M2 : Mem} (As : List Value) (hx0 : p.tables.exec = Jvm.exec) (hb : c.code = cc) (hml : c.maxLocals = nL) (hts : ∀ w ∈ zws, w.before args s = true) (hown : s.vm.findClass R_Md = some m.cls) (hM : MetZT l G y_Md_groupBits (Cond.code y_Md_groupBits b_Md_groupBits 4 (some .int) :: zws) rm (.ref (G.1 0) :: As) M (some (.int r)) M2) (hZ : ZZT G s M H locs) (hrc : rm.cells = 0) (hrs : rm.slots = 0) (hR : rm.frames + 1 ≤ R.frames ∧ 8 + (4 + 11) + rm.locals ≤ R.locals) (hls : ls.size = nL) (hAs : As.length = 1) (hW : (rest.map fun v => v.category).sum ≤ 8) (hdg : decode cc pc = .ok (.invokevirtual 115, 3)) (kk : ∀ (H1 : Heap) (locs1 : List Loc), ZZT G s M2 H1 locs1 → W p l e R s m args below meth c H1 locs1 0 0 Q (F0 m (pc + 3) ls (.int r :: rest))) : W p l e R s m args below meth c H locs 0 0 Q (F0 m pc ls (As.reverse ++ .ref (G.1 0) :: rest)) :=
  z_runT (va_runV (As := As) (rest := rest) ⟨hx0, hb, hml, hown, hts⟩ (hM H.size) ⟨zcB hts wc_Md_groupBits wini_Md wm_Md_115 (by decide +kernel) hrc hrs hR, hts _ wi_Md_groupBits, hts _ ws_Md_groupBits⟩ ⟨zP_blindT, va_recv hZ.2.1.1 hZ.2.2.1 (ci := 7) (q0 := 0) rfl rfl, zP_atT hZ⟩ rfl hAs hls rfl (lv_room hW) hdg ⟨Nat.zero_le _, Nat.zero_le _⟩) hZ kk
theorem k_Md_Md_shareSum {r : Int64} {rm : Room} {M2 : Mem} (As : List Value) (hx0 : p.tables.exec = Jvm.exec) (hb : c.code = cc) (hml : c.maxLocals = nL) (hts : ∀ w ∈ zws, w.before args s = true) (hown : s.vm.findClass R_Md = some m.cls) (hM : MetZT l G y_Md_shareSum (Cond.code y_Md_shareSum b_Md_shareSum 6 (some .long) :: zws) rm (.ref (G.1 0) :: As) M (some (.long r)) M2) (hZ : ZZT G s M H locs) (hrc : rm.cells = 0) (hrs : rm.slots = 0) (hR : rm.frames + 1 ≤ R.frames ∧ 8 + (6 + 11) + rm.locals ≤ R.locals) (hls : ls.size = nL) (hAs : As.length = 1) (hW : (rest.map fun v => v.category).sum ≤ 8) (hdg : decode cc pc = .ok (.invokevirtual 132, 3)) (kk : ∀ (H1 : Heap) (locs1 : List Loc), ZZT G s M2 H1 locs1 → W p l e R s m args below meth c H1 locs1 0 0 Q (F0 m (pc + 3) ls (.long r :: rest))) : W p l e R s m args below meth c H locs 0 0 Q (F0 m pc ls (As.reverse ++ .ref (G.1 0) :: rest)) :=
  z_runT (va_runV (As := As) (rest := rest) ⟨hx0, hb, hml, hown, hts⟩ (hM H.size) ⟨zcB hts wc_Md_shareSum wini_Md wm_Md_132 (by decide +kernel) hrc hrs hR, hts _ wi_Md_shareSum, hts _ ws_Md_shareSum⟩ ⟨zP_blindT, va_recv hZ.2.1.1 hZ.2.2.1 (ci := 7) (q0 := 0) rfl rfl, zP_atT hZ⟩ rfl hAs hls rfl (lv_room hW) hdg ⟨Nat.zero_le _, Nat.zero_le _⟩) hZ kk
theorem k_Md_Md_setSum {r : Int64} {rm : Room} {M2 : Mem} (As : List Value) (hx0 : p.tables.exec = Jvm.exec) (hb : c.code = cc) (hml : c.maxLocals = nL) (hts : ∀ w ∈ zws, w.before args s = true) (hown : s.vm.findClass R_Md = some m.cls) (hM : MetZT l G y_Md_setSum (Cond.code y_Md_setSum b_Md_setSum 7 (some .long) :: zws) rm (.ref (G.1 0) :: As) M (some (.long r)) M2) (hZ : ZZT G s M H locs) (hrc : rm.cells = 0) (hrs : rm.slots = 0) (hR : rm.frames + 1 ≤ R.frames ∧ 8 + (7 + 11) + rm.locals ≤ R.locals) (hls : ls.size = nL) (hAs : As.length = 1) (hW : (rest.map fun v => v.category).sum ≤ 8) (hdg : decode cc pc = .ok (.invokevirtual 136, 3)) (kk : ∀ (H1 : Heap) (locs1 : List Loc), ZZT G s M2 H1 locs1 → W p l e R s m args below meth c H1 locs1 0 0 Q (F0 m (pc + 3) ls (.long r :: rest))) : W p l e R s m args below meth c H locs 0 0 Q (F0 m pc ls (As.reverse ++ .ref (G.1 0) :: rest)) :=
  z_runT (va_runV (As := As) (rest := rest) ⟨hx0, hb, hml, hown, hts⟩ (hM H.size) ⟨zcB hts wc_Md_setSum wini_Md wm_Md_136 (by decide +kernel) hrc hrs hR, hts _ wi_Md_setSum, hts _ ws_Md_setSum⟩ ⟨zP_blindT, va_recv hZ.2.1.1 hZ.2.2.1 (ci := 7) (q0 := 0) rfl rfl, zP_atT hZ⟩ rfl hAs hls rfl (lv_room hW) hdg ⟨Nat.zero_le _, Nat.zero_le _⟩) hZ kk
theorem k_Md_Md_orders {r : Int32} {rm : Room} {M2 : Mem} (As : List Value) (hx0 : p.tables.exec = Jvm.exec) (hb : c.code = cc) (hml : c.maxLocals = nL) (hts : ∀ w ∈ zws, w.before args s = true) (hown : s.vm.findClass R_Md = some m.cls) (hM : MetZT l G y_Md_orders (Cond.code y_Md_orders b_Md_orders 3 (some .int) :: zws) rm (.ref (G.1 0) :: As) M (some (.int r)) M2) (hZ : ZZT G s M H locs) (hrc : rm.cells = 0) (hrs : rm.slots = 0) (hR : rm.frames + 1 ≤ R.frames ∧ 8 + (3 + 11) + rm.locals ≤ R.locals) (hls : ls.size = nL) (hAs : As.length = 0) (hW : (rest.map fun v => v.category).sum ≤ 8) (hdg : decode cc pc = .ok (.invokevirtual 123, 3)) (kk : ∀ (H1 : Heap) (locs1 : List Loc), ZZT G s M2 H1 locs1 → W p l e R s m args below meth c H1 locs1 0 0 Q (F0 m (pc + 3) ls (.int r :: rest))) : W p l e R s m args below meth c H locs 0 0 Q (F0 m pc ls (As.reverse ++ .ref (G.1 0) :: rest)) :=
  z_runT (va_runV (As := As) (rest := rest) ⟨hx0, hb, hml, hown, hts⟩ (hM H.size) ⟨zcB hts wc_Md_orders wini_Md wm_Md_123 (by decide +kernel) hrc hrs hR, hts _ wi_Md_orders, hts _ ws_Md_orders⟩ ⟨zP_blindT, va_recv hZ.2.1.1 hZ.2.2.1 (ci := 7) (q0 := 0) rfl rfl, zP_atT hZ⟩ rfl hAs hls rfl (lv_room hW) hdg ⟨Nat.zero_le _, Nat.zero_le _⟩) hZ kk
theorem k_Md_Md_listParts {rm : Room} {M2 : Mem} (As : List Value) (hx0 : p.tables.exec = Jvm.exec) (hb : c.code = cc) (hml : c.maxLocals = nL) (hts : ∀ w ∈ zws, w.before args s = true) (hown : s.vm.findClass R_Md = some m.cls) (hM : MetZT l G y_Md_listParts (Cond.code y_Md_listParts b_Md_listParts 5 none :: zws) rm (.ref (G.1 0) :: As) M none M2) (hZ : ZZT G s M H locs) (hrc : rm.cells = 0) (hrs : rm.slots = 0) (hR : rm.frames + 1 ≤ R.frames ∧ 8 + (5 + 11) + rm.locals ≤ R.locals) (hls : ls.size = nL) (hAs : As.length = 2) (hW : (rest.map fun v => v.category).sum ≤ 8) (hdg : decode cc pc = .ok (.invokevirtual 119, 3)) (kk : ∀ (H1 : Heap) (locs1 : List Loc), ZZT G s M2 H1 locs1 → W p l e R s m args below meth c H1 locs1 0 0 Q (F0 m (pc + 3) ls rest)) : W p l e R s m args below meth c H locs 0 0 Q (F0 m pc ls (As.reverse ++ .ref (G.1 0) :: rest)) :=
  z_runT (va_runV (As := As) (rest := rest) ⟨hx0, hb, hml, hown, hts⟩ (hM H.size) ⟨zcB hts wc_Md_listParts wini_Md wm_Md_119 (by decide +kernel) hrc hrs hR, hts _ wi_Md_listParts, hts _ ws_Md_listParts⟩ ⟨zP_blindT, va_recv hZ.2.1.1 hZ.2.2.1 (ci := 7) (q0 := 0) rfl rfl, zP_atT hZ⟩ rfl hAs hls rfl (lv_room hW) hdg ⟨Nat.zero_le _, Nat.zero_le _⟩) hZ kk
theorem k_Md_Md_layOrder {rm : Room} {M2 : Mem} (As : List Value) (hx0 : p.tables.exec = Jvm.exec) (hb : c.code = cc) (hml : c.maxLocals = nL) (hts : ∀ w ∈ zws, w.before args s = true) (hown : s.vm.findClass R_Md = some m.cls) (hM : MetZT l G y_Md_layOrder (Cond.code y_Md_layOrder b_Md_layOrder 7 none :: zws) rm (.ref (G.1 0) :: As) M none M2) (hZ : ZZT G s M H locs) (hrc : rm.cells = 0) (hrs : rm.slots = 0) (hR : rm.frames + 1 ≤ R.frames ∧ 8 + (7 + 11) + rm.locals ≤ R.locals) (hls : ls.size = nL) (hAs : As.length = 1) (hW : (rest.map fun v => v.category).sum ≤ 8) (hdg : decode cc pc = .ok (.invokevirtual 126, 3)) (kk : ∀ (H1 : Heap) (locs1 : List Loc), ZZT G s M2 H1 locs1 → W p l e R s m args below meth c H1 locs1 0 0 Q (F0 m (pc + 3) ls rest)) : W p l e R s m args below meth c H locs 0 0 Q (F0 m pc ls (As.reverse ++ .ref (G.1 0) :: rest)) :=
  z_runT (va_runV (As := As) (rest := rest) ⟨hx0, hb, hml, hown, hts⟩ (hM H.size) ⟨zcB hts wc_Md_layOrder wini_Md wm_Md_126 (by decide +kernel) hrc hrs hR, hts _ wi_Md_layOrder, hts _ ws_Md_layOrder⟩ ⟨zP_blindT, va_recv hZ.2.1.1 hZ.2.2.1 (ci := 7) (q0 := 0) rfl rfl, zP_atT hZ⟩ rfl hAs hls rfl (lv_room hW) hdg ⟨Nat.zero_le _, Nat.zero_le _⟩) hZ kk
theorem k_Md_Md_before {r : Int32} {rm : Room} {M2 : Mem} (As : List Value) (hx0 : p.tables.exec = Jvm.exec) (hb : c.code = cc) (hml : c.maxLocals = nL) (hts : ∀ w ∈ zws, w.before args s = true) (hown : s.vm.findClass R_Md = some m.cls) (hM : MetZT l G y_Md_before (Cond.code y_Md_before b_Md_before 4 (some .int) :: zws) rm (.ref (G.1 0) :: As) M (some (.int r)) M2) (hZ : ZZT G s M H locs) (hrc : rm.cells = 0) (hrs : rm.slots = 0) (hR : rm.frames + 1 ≤ R.frames ∧ 8 + (4 + 11) + rm.locals ≤ R.locals) (hls : ls.size = nL) (hAs : As.length = 1) (hW : (rest.map fun v => v.category).sum ≤ 8) (hdg : decode cc pc = .ok (.invokevirtual 129, 3)) (kk : ∀ (H1 : Heap) (locs1 : List Loc), ZZT G s M2 H1 locs1 → W p l e R s m args below meth c H1 locs1 0 0 Q (F0 m (pc + 3) ls (.int r :: rest))) : W p l e R s m args below meth c H locs 0 0 Q (F0 m pc ls (As.reverse ++ .ref (G.1 0) :: rest)) :=
  z_runT (va_runV (As := As) (rest := rest) ⟨hx0, hb, hml, hown, hts⟩ (hM H.size) ⟨zcB hts wc_Md_before wini_Md wm_Md_129 (by decide +kernel) hrc hrs hR, hts _ wi_Md_before, hts _ ws_Md_before⟩ ⟨zP_blindT, va_recv hZ.2.1.1 hZ.2.2.1 (ci := 7) (q0 := 0) rfl rfl, zP_atT hZ⟩ rfl hAs hls rfl (lv_room hW) hdg ⟨Nat.zero_le _, Nat.zero_le _⟩) hZ kk
theorem k_Md_Md_findSizes {rm : Room} {M2 : Mem} (As : List Value) (hx0 : p.tables.exec = Jvm.exec) (hb : c.code = cc) (hml : c.maxLocals = nL) (hts : ∀ w ∈ zws, w.before args s = true) (hown : s.vm.findClass R_Md = some m.cls) (hM : MetZT l G y_Md_findSizes (Cond.code y_Md_findSizes b_Md_findSizes 4 none :: zws) rm (.ref (G.1 0) :: As) M none M2) (hZ : ZZT G s M H locs) (hrc : rm.cells = 0) (hrs : rm.slots = 0) (hR : rm.frames + 1 ≤ R.frames ∧ 8 + (4 + 11) + rm.locals ≤ R.locals) (hls : ls.size = nL) (hAs : As.length = 0) (hW : (rest.map fun v => v.category).sum ≤ 8) (hdg : decode cc pc = .ok (.invokevirtual 140, 3)) (kk : ∀ (H1 : Heap) (locs1 : List Loc), ZZT G s M2 H1 locs1 → W p l e R s m args below meth c H1 locs1 0 0 Q (F0 m (pc + 3) ls rest)) : W p l e R s m args below meth c H locs 0 0 Q (F0 m pc ls (As.reverse ++ .ref (G.1 0) :: rest)) :=
  z_runT (va_runV (As := As) (rest := rest) ⟨hx0, hb, hml, hown, hts⟩ (hM H.size) ⟨zcB hts wc_Md_findSizes wini_Md wm_Md_140 (by decide +kernel) hrc hrs hR, hts _ wi_Md_findSizes, hts _ ws_Md_findSizes⟩ ⟨zP_blindT, va_recv hZ.2.1.1 hZ.2.2.1 (ci := 7) (q0 := 0) rfl rfl, zP_atT hZ⟩ rfl hAs hls rfl (lv_room hW) hdg ⟨Nat.zero_le _, Nat.zero_le _⟩) hZ kk
theorem k_Md_Md_findNearest {r : Int32} {rm : Room} {M2 : Mem} (As : List Value) (hx0 : p.tables.exec = Jvm.exec) (hb : c.code = cc) (hml : c.maxLocals = nL) (hts : ∀ w ∈ zws, w.before args s = true) (hown : s.vm.findClass R_Md = some m.cls) (hM : MetZT l G y_Md_findNearest (Cond.code y_Md_findNearest b_Md_findNearest 5 (some .boolean) :: zws) rm (.ref (G.1 0) :: As) M (some (.int r)) M2) (hZ : ZZT G s M H locs) (hrc : rm.cells = 0) (hrs : rm.slots = 0) (hR : rm.frames + 1 ≤ R.frames ∧ 8 + (5 + 11) + rm.locals ≤ R.locals) (hls : ls.size = nL) (hAs : As.length = 1) (hW : (rest.map fun v => v.category).sum ≤ 8) (hdg : decode cc pc = .ok (.invokevirtual 156, 3)) (kk : ∀ (H1 : Heap) (locs1 : List Loc), ZZT G s M2 H1 locs1 → W p l e R s m args below meth c H1 locs1 0 0 Q (F0 m (pc + 3) ls (.int r :: rest))) : W p l e R s m args below meth c H locs 0 0 Q (F0 m pc ls (As.reverse ++ .ref (G.1 0) :: rest)) :=
  z_runT (va_runV (As := As) (rest := rest) ⟨hx0, hb, hml, hown, hts⟩ (hM H.size) ⟨zcB hts wc_Md_findNearest wini_Md wm_Md_156 (by decide +kernel) hrc hrs hR, hts _ wi_Md_findNearest, hts _ ws_Md_findNearest⟩ ⟨zP_blindT, va_recv hZ.2.1.1 hZ.2.2.1 (ci := 7) (q0 := 0) rfl rfl, zP_atT hZ⟩ rfl hAs hls rfl (lv_room hW) hdg ⟨Nat.zero_le _, Nat.zero_le _⟩) hZ kk
theorem k_Md_Md_hold {rm : Room} {M2 : Mem} (As : List Value) (hx0 : p.tables.exec = Jvm.exec) (hb : c.code = cc) (hml : c.maxLocals = nL) (hts : ∀ w ∈ zws, w.before args s = true) (hown : s.vm.findClass R_Md = some m.cls) (hM : MetZT l G y_Md_hold (Cond.code y_Md_hold b_Md_hold 7 none :: zws) rm (.ref (G.1 0) :: As) M none M2) (hZ : ZZT G s M H locs) (hrc : rm.cells = 0) (hrs : rm.slots = 0) (hR : rm.frames + 1 ≤ R.frames ∧ 8 + (7 + 11) + rm.locals ≤ R.locals) (hls : ls.size = nL) (hAs : As.length = 1) (hW : (rest.map fun v => v.category).sum ≤ 8) (hdg : decode cc pc = .ok (.invokevirtual 149, 3)) (kk : ∀ (H1 : Heap) (locs1 : List Loc), ZZT G s M2 H1 locs1 → W p l e R s m args below meth c H1 locs1 0 0 Q (F0 m (pc + 3) ls rest)) : W p l e R s m args below meth c H locs 0 0 Q (F0 m pc ls (As.reverse ++ .ref (G.1 0) :: rest)) :=
  z_runT (va_runV (As := As) (rest := rest) ⟨hx0, hb, hml, hown, hts⟩ (hM H.size) ⟨zcB hts wc_Md_hold wini_Md wm_Md_149 (by decide +kernel) hrc hrs hR, hts _ wi_Md_hold, hts _ ws_Md_hold⟩ ⟨zP_blindT, va_recv hZ.2.1.1 hZ.2.2.1 (ci := 7) (q0 := 0) rfl rfl, zP_atT hZ⟩ rfl hAs hls rfl (lv_room hW) hdg ⟨Nat.zero_le _, Nat.zero_le _⟩) hZ kk
theorem k_Md_Md_next {r : Int32} {rm : Room} {M2 : Mem} (As : List Value) (hx0 : p.tables.exec = Jvm.exec) (hb : c.code = cc) (hml : c.maxLocals = nL) (hts : ∀ w ∈ zws, w.before args s = true) (hown : s.vm.findClass R_Md = some m.cls) (hM : MetZT l G y_Md_next (Cond.code y_Md_next b_Md_next 5 (some .int) :: zws) rm (.ref (G.1 0) :: As) M (some (.int r)) M2) (hZ : ZZT G s M H locs) (hrc : rm.cells = 0) (hrs : rm.slots = 0) (hR : rm.frames + 1 ≤ R.frames ∧ 8 + (5 + 11) + rm.locals ≤ R.locals) (hls : ls.size = nL) (hAs : As.length = 1) (hW : (rest.map fun v => v.category).sum ≤ 8) (hdg : decode cc pc = .ok (.invokevirtual 153, 3)) (kk : ∀ (H1 : Heap) (locs1 : List Loc), ZZT G s M2 H1 locs1 → W p l e R s m args below meth c H1 locs1 0 0 Q (F0 m (pc + 3) ls (.int r :: rest))) : W p l e R s m args below meth c H locs 0 0 Q (F0 m pc ls (As.reverse ++ .ref (G.1 0) :: rest)) :=
  z_runT (va_runV (As := As) (rest := rest) ⟨hx0, hb, hml, hown, hts⟩ (hM H.size) ⟨zcB hts wc_Md_next wini_Md wm_Md_153 (by decide +kernel) hrc hrs hR, hts _ wi_Md_next, hts _ ws_Md_next⟩ ⟨zP_blindT, va_recv hZ.2.1.1 hZ.2.2.1 (ci := 7) (q0 := 0) rfl rfl, zP_atT hZ⟩ rfl hAs hls rfl (lv_room hW) hdg ⟨Nat.zero_le _, Nat.zero_le _⟩) hZ kk
end ZCT
end
section
-- ExactShares2$Learner.addNode(IIII)I
def p_Ln_addNode (a1 : Int32) (a2 : Int32) (a3 : Int32) (a4 : Int32) (M : Mem) : Option (Int32 × Mem) :=
  if (M.1 1 7) < (30 : Int32) then
    chk (inb (M.1 1 7) 30) <|
    nm (wI M 2 (M.1 1 7) a1) fun m3 =>
    chk (inb (m3.1 1 7) 30) <|
    nm (wI m3 3 (m3.1 1 7) a2) fun m5 =>
    chk (inb (m5.1 1 7) 30) <|
    nm (wI m5 4 (m5.1 1 7) a3) fun m7 =>
    chk (inb (m7.1 1 7) 30) <|
    nm (wI m7 5 (m7.1 1 7) a4) fun m9 =>
    nm (wF m9 1 7 ((m9.1 1 7) + (1 : Int32))) fun m10 =>
    some (((m10.1 1 7) - (1 : Int32)), m10)
  else
    some ((-4 : Int32), M)
-- ExactShares2$Learner.addLeaf(I)I
def p_Ln_addLeaf (a1 : Int32) (M : Mem) : Option (Int32 × Mem) :=
  bnd (p_Ln_addNode (-1 : Int32) a1 (0 : Int32) (0 : Int32) M) fun q1 =>
  some (q1.1, q1.2)
-- ExactShares2$Learner.hasNode(I)Z
def p_Ln_hasNode (a1 : Int32) (M : Mem) : Option (Int32) :=
  if a1 < 0 then
    some (0 : Int32)
  else
    if (M.1 1 7) ≤ a1 then
      some (0 : Int32)
    else
      some (1 : Int32)
-- ExactShares2$Learner.addSplit(IIII)I
def p_Ln_addSplit (a1 : Int32) (a2 : Int32) (a3 : Int32) (a4 : Int32) (M : Mem) : Option (Int32 × Mem) :=
  bnd (p_Ln_addNode a1 a2 a3 a4 M) fun q1 =>
  some (q1.1, q1.2)
-- ExactShares2$Learner.addRoot(I)I
def p_Ln_addRoot (a1 : Int32) (M : Mem) : Option (Int32 × Mem) :=
  if (M.1 1 8) < (4 : Int32) then
    chk (inb (M.1 1 8) 4) <|
    nm (wI M 7 (M.1 1 8) a1) fun m3 =>
    nm (wF m3 1 8 ((m3.1 1 8) + (1 : Int32))) fun m4 =>
    some ((m4.1 1 8), m4)
  else
    some ((-4 : Int32), M)
-- ExactShares2$Learner.weigh(II)V
def p_Ln_weigh (a1 : Int32) (a2 : Int32) (M : Mem) : Option (Mem) :=
  chk (inb a1 6) <|
  nm (wI M 8 a1 a2) fun m2 =>
  some m2
-- ExactShares2$Learner.forget()I
def p_Ln_forget_L17 (x2_17 : Int32) (M_17 : Mem) : Option ((Int32 × Mem) ⊕ (Int32 × Mem)) :=
  if (6 : Int32) ≤ x2_17 then
    some (.inr (x2_17, M_17))
  else
    chk (inb x2_17 6) <|
    nm (wI M_17 8 x2_17 (0 : Int32)) fun m17_3 =>
    some (.inl ((x2_17 + (1 : Int32)), m17_3))
def p_Ln_forget  (M : Mem) : Option (Int32 × Mem) :=
  nm (wF M 1 7 (0 : Int32)) fun m1 =>
  nm (wF m1 1 8 (0 : Int32)) fun m2 =>
  bnd (itr zfu (fun s => p_Ln_forget_L17 s.1 s.2) ((0 : Int32), m2)) fun q3 =>
  some ((M.1 1 7), q3.2)
-- ExactShares2$Learner.givenBy(I[I)I
def p_Ln_givenBy_L5 (a2 : Nat) (M : Mem) (x3_5 : Int32) (x4_5 : Int32) : Option ((Int32 × Int32) ⊕ (Int32 × Int32)) :=
  if (M.1 1 7) ≤ x4_5 then
    some (.inr (x3_5, x4_5))
  else
    chk (inb x3_5 30) <|
    if (M.1 2 (Int32.toNatClampNeg x3_5)) = (-1 : Int32) then
      some (.inr (x3_5, x4_5))
    else
      chk (inb x3_5 30) <|
      chk (inb (M.1 2 (Int32.toNatClampNeg x3_5)) (alenC a2)) <|
      chk (inb x3_5 30) <|
      if (M.1 3 (Int32.toNatClampNeg x3_5)) < (M.1 a2 (Int32.toNatClampNeg (M.1 2 (Int32.toNatClampNeg x3_5)))) then
        chk (inb x3_5 30) <|
        some (.inl ((M.1 5 (Int32.toNatClampNeg x3_5)), (x4_5 + (1 : Int32))))
      else
        chk (inb x3_5 30) <|
        some (.inl ((M.1 4 (Int32.toNatClampNeg x3_5)), (x4_5 + (1 : Int32))))
def p_Ln_givenBy (a1 : Int32) (a2 : Nat) (M : Mem) : Option (Int32) :=
  bnd (itr zfu (fun s => p_Ln_givenBy_L5 a2 M s.1 s.2) (a1, (0 : Int32))) fun q1 =>
  chk (inb q1.1 30) <|
  some (M.1 3 (Int32.toNatClampNeg q1.1))
-- ExactShares2$Learner.sumFor([I)I
def p_Ln_sumFor_L4 (a1 : Nat) (M : Mem) (x2_4 : Int32) (x3_4 : Int32) : Option ((Int32 × Int32) ⊕ (Int32 × Int32)) :=
  if (M.1 1 8) ≤ x3_4 then
    some (.inr (x2_4, x3_4))
  else
    chk (inb x3_4 4) <|
    bnd (p_Ln_givenBy (M.1 7 (Int32.toNatClampNeg x3_4)) a1 M) fun q4_3 =>
    some (.inl ((x2_4 + q4_3), (x3_4 + (1 : Int32))))
def p_Ln_sumFor_L34 (a1 : Nat) (M : Mem) (x2_34 : Int32) (x3_34 : Int32) : Option ((Int32 × Int32) ⊕ (Int32 × Int32)) :=
  if (6 : Int32) ≤ x3_34 then
    some (.inr (x2_34, x3_34))
  else
    chk (inb x3_34 6) <|
    chk (inb x3_34 (alenC a1)) <|
    some (.inl ((x2_34 + ((M.1 8 (Int32.toNatClampNeg x3_34)) * (M.1 a1 (Int32.toNatClampNeg x3_34)))), (x3_34 + (1 : Int32))))
def p_Ln_sumFor (a1 : Nat) (M : Mem) : Option (Int32) :=
  bnd (itr zfu (fun s => p_Ln_sumFor_L4 a1 M s.1 s.2) ((0 : Int32), (0 : Int32))) fun q1 =>
  bnd (itr zfu (fun s => p_Ln_sumFor_L34 a1 M s.1 s.2) (q1.1, (0 : Int32))) fun q2 =>
  some q2.1
-- ExactShares2$Learner.peakOf(I[I[I)I
def p_Ln_peakOf (a1 : Int32) (a2 : Nat) (a3 : Nat) (M : Mem) : Option (Int32) :=
  chk (inb a1 30) <|
  if (M.1 2 (Int32.toNatClampNeg a1)) = (-1 : Int32) then
    chk (inb a1 30) <|
    some (M.1 3 (Int32.toNatClampNeg a1))
  else
    chk (inb (M.1 2 (Int32.toNatClampNeg a1)) (alenC a3)) <|
    chk (inb a1 30) <|
    if (M.1 3 (Int32.toNatClampNeg a1)) < (M.1 a3 (Int32.toNatClampNeg (M.1 2 (Int32.toNatClampNeg a1)))) then
      chk (inb (M.1 2 (Int32.toNatClampNeg a1)) (alenC a2)) <|
      chk (inb a1 30) <|
      if (M.1 a2 (Int32.toNatClampNeg (M.1 2 (Int32.toNatClampNeg a1)))) ≤ (M.1 3 (Int32.toNatClampNeg a1)) then
        chk (inb a1 30) <|
        chk (inb (M.1 4 (Int32.toNatClampNeg a1)) 30) <|
        chk (inb a1 30) <|
        chk (inb (M.1 5 (Int32.toNatClampNeg a1)) 30) <|
        some (if (M.1 6 (Int32.toNatClampNeg (M.1 4 (Int32.toNatClampNeg a1)))) < (M.1 6 (Int32.toNatClampNeg (M.1 5 (Int32.toNatClampNeg a1)))) then (M.1 6 (Int32.toNatClampNeg (M.1 5 (Int32.toNatClampNeg a1)))) else (M.1 6 (Int32.toNatClampNeg (M.1 4 (Int32.toNatClampNeg a1)))))
      else
        chk (inb a1 30) <|
        chk (inb (M.1 5 (Int32.toNatClampNeg a1)) 30) <|
        some (M.1 6 (Int32.toNatClampNeg (M.1 5 (Int32.toNatClampNeg a1))))
    else
      chk (inb a1 30) <|
      chk (inb (M.1 4 (Int32.toNatClampNeg a1)) 30) <|
      some (M.1 6 (Int32.toNatClampNeg (M.1 4 (Int32.toNatClampNeg a1))))
-- ExactShares2$Learner.boundWithin([I[I)I
def p_Ln_boundWithin_L2 (a1 : Nat) (a2 : Nat) (x3_2 : Int32) (M_2 : Mem) : Option ((Int32 × Mem) ⊕ (Int32 × Mem)) :=
  if (M_2.1 1 7) ≤ x3_2 then
    some (.inr (x3_2, M_2))
  else
    bnd (p_Ln_peakOf x3_2 a1 a2 M_2) fun q2_2 =>
    chk (inb x3_2 30) <|
    nm (wI M_2 6 x3_2 q2_2) fun m2_4 =>
    some (.inl ((x3_2 + (1 : Int32)), m2_4))
def p_Ln_boundWithin_L34 (q1 : (Int32 × Mem)) (x3_34 : Int32) (x4_34 : Int32) : Option ((Int32 × Int32) ⊕ (Int32 × Int32)) :=
  if (q1.2.1 1 8) ≤ x4_34 then
    some (.inr (x3_34, x4_34))
  else
    chk (inb x4_34 4) <|
    chk (inb (q1.2.1 7 (Int32.toNatClampNeg x4_34)) 30) <|
    some (.inl ((x3_34 + (q1.2.1 6 (Int32.toNatClampNeg (q1.2.1 7 (Int32.toNatClampNeg x4_34))))), (x4_34 + (1 : Int32))))
def p_Ln_boundWithin_L67 (a1 : Nat) (a2 : Nat) (q1 : (Int32 × Mem)) (x3_67 : Int32) (x4_67 : Int32) : Option ((Int32 × Int32) ⊕ (Int32 × Int32)) :=
  if (6 : Int32) ≤ x4_67 then
    some (.inr (x3_67, x4_67))
  else
    chk (inb x4_67 6) <|
    chk (inb x4_67 (alenC a1)) <|
    chk (inb x4_67 6) <|
    chk (inb x4_67 (alenC a2)) <|
    some (.inl ((x3_67 + (if ((q1.2.1 8 (Int32.toNatClampNeg x4_67)) * (q1.2.1 a1 (Int32.toNatClampNeg x4_67))) < ((q1.2.1 8 (Int32.toNatClampNeg x4_67)) * (q1.2.1 a2 (Int32.toNatClampNeg x4_67))) then ((q1.2.1 8 (Int32.toNatClampNeg x4_67)) * (q1.2.1 a2 (Int32.toNatClampNeg x4_67))) else ((q1.2.1 8 (Int32.toNatClampNeg x4_67)) * (q1.2.1 a1 (Int32.toNatClampNeg x4_67))))), (x4_67 + (1 : Int32))))
def p_Ln_boundWithin (a1 : Nat) (a2 : Nat) (M : Mem) : Option (Int32 × Mem) :=
  bnd (itr zfu (fun s => p_Ln_boundWithin_L2 a1 a2 s.1 s.2) ((0 : Int32), M)) fun q1 =>
  bnd (itr zfu (fun s => p_Ln_boundWithin_L34 q1 s.1 s.2) ((0 : Int32), (0 : Int32))) fun q2 =>
  bnd (itr zfu (fun s => p_Ln_boundWithin_L67 a1 a2 q1 s.1 s.2) (q2.1, (0 : Int32))) fun q3 =>
  some (q3.1, q1.2)
-- ExactShares2$Rows.empty([I)V
def p_Rw_empty_L2 (a0 : Nat) (x1_2 : Int32) (M_2 : Mem) : Option ((Int32 × Mem) ⊕ (Int32 × Mem)) :=
  chk (decide (0 < alenC a0)) <|
  if (nI (alenC a0)) ≤ x1_2 then
    some (.inr (x1_2, M_2))
  else
    chk (inb x1_2 (alenC a0)) <|
    nm (wI M_2 a0 x1_2 (0 : Int32)) fun m2_4 =>
    some (.inl ((x1_2 + (1 : Int32)), m2_4))
def p_Rw_empty (a0 : Nat) (M : Mem) : Option (Mem) :=
  bnd (itr zfu (fun s => p_Rw_empty_L2 a0 s.1 s.2) ((0 : Int32), M)) fun q1 =>
  some q1.2
-- ExactShares2$Rows.forget()V
def p_Rw_forget  (M : Mem) : Option (Mem) :=
  bnd (p_Rw_empty 10 M) fun q1 =>
  nm (wF q1 9 2 (0 : Int32)) fun m2 =>
  some m2
-- ExactShares2$Rows.addRow()I
def p_Rw_addRow  (M : Mem) : Option (Int32 × Mem) :=
  if (M.1 9 2) < (5 : Int32) then
    chk (inb (M.1 9 2) 5) <|
    bnd (p_Rw_empty (12 + Int32.toNatClampNeg (M.1 9 2)) M) fun q3 =>
    nm (wF q3 9 2 ((q3.1 9 2) + (1 : Int32))) fun m4 =>
    some (((m4.1 9 2) - (1 : Int32)), m4)
  else
    some ((-4 : Int32), M)
-- ExactShares2$Rows.has(I)Z
def p_Rw_has (a1 : Int32) (M : Mem) : Option (Int32) :=
  if a1 < (-1 : Int32) then
    some (0 : Int32)
  else
    if (M.1 9 2) ≤ a1 then
      some (0 : Int32)
    else
      some (1 : Int32)
-- ExactShares2$Rows.at(I)[I
def p_Rw_at (a1 : Int32) (M : Mem) : Option (Nat) :=
  if a1 < 0 then
    some 10
  else
    if (5 : Int32) ≤ a1 then
      some 10
    else
      chk (inb a1 5) <|
      some (12 + Int32.toNatClampNeg a1)
-- ExactShares2$Rows.count()I
def p_Rw_count  (M : Mem) : Option (Int32) :=
  some (M.1 9 2)
-- ExactShares2$Groups.standAlone()V
def p_Gr_standAlone_L2 (x1_2 : Int32) (M_2 : Mem) : Option ((Int32 × Mem) ⊕ (Int32 × Mem)) :=
  if (6 : Int32) ≤ x1_2 then
    some (.inr (x1_2, M_2))
  else
    chk (inb x1_2 6) <|
    nm (wI M_2 18 x1_2 x1_2) fun m2_3 =>
    some (.inl ((x1_2 + (1 : Int32)), m2_3))
def p_Gr_standAlone  (M : Mem) : Option (Mem) :=
  bnd (itr zfu (fun s => p_Gr_standAlone_L2 s.1 s.2) ((0 : Int32), M)) fun q1 =>
  some q1.2
-- ExactShares2$Groups.move(II)I
def p_Gr_move (a1 : Int32) (a2 : Int32) (M : Mem) : Option (Int32 × Mem) :=
  chk (inb a1 6) <|
  chk (inb a1 6) <|
  nm (wI M 18 a1 a2) fun m3 =>
  some ((M.1 18 (Int32.toNatClampNeg a1)), m3)
-- ExactShares2$Groups.there()I
def p_Gr_there_L4 (M : Mem) (x1_4 : Int32) (x2_4 : Int32) : Option ((Int32 × Int32) ⊕ (Int32 × Int32)) :=
  if (M.1 17 0) ≤ x2_4 then
    some (.inr (x1_4, x2_4))
  else
    chk (inb x2_4 6) <|
    some (.inl ((x1_4 ||| ((1 : Int32) <<< ((M.1 18 (Int32.toNatClampNeg x2_4)) &&& 31))), (x2_4 + (1 : Int32))))
def p_Gr_there  (M : Mem) : Option (Int32) :=
  bnd (itr zfu (fun s => p_Gr_there_L4 M s.1 s.2) ((0 : Int32), (0 : Int32))) fun q1 =>
  some q1.1
-- java/lang/Integer.bitCount(I)I
def p_In_bitCount (a0 : Int32) (M : Mem) : Option (Int32) :=
  some ((((((((a0 - ((zush a0 (1 : Int32)) &&& (1431655765 : Int32))) &&& (858993459 : Int32)) + ((zush (a0 - ((zush a0 (1 : Int32)) &&& (1431655765 : Int32))) (2 : Int32)) &&& (858993459 : Int32))) + (zush (((a0 - ((zush a0 (1 : Int32)) &&& (1431655765 : Int32))) &&& (858993459 : Int32)) + ((zush (a0 - ((zush a0 (1 : Int32)) &&& (1431655765 : Int32))) (2 : Int32)) &&& (858993459 : Int32))) (4 : Int32))) &&& (252645135 : Int32)) + (zush (((((a0 - ((zush a0 (1 : Int32)) &&& (1431655765 : Int32))) &&& (858993459 : Int32)) + ((zush (a0 - ((zush a0 (1 : Int32)) &&& (1431655765 : Int32))) (2 : Int32)) &&& (858993459 : Int32))) + (zush (((a0 - ((zush a0 (1 : Int32)) &&& (1431655765 : Int32))) &&& (858993459 : Int32)) + ((zush (a0 - ((zush a0 (1 : Int32)) &&& (1431655765 : Int32))) (2 : Int32)) &&& (858993459 : Int32))) (4 : Int32))) &&& (252645135 : Int32)) (8 : Int32))) + (zush ((((((a0 - ((zush a0 (1 : Int32)) &&& (1431655765 : Int32))) &&& (858993459 : Int32)) + ((zush (a0 - ((zush a0 (1 : Int32)) &&& (1431655765 : Int32))) (2 : Int32)) &&& (858993459 : Int32))) + (zush (((a0 - ((zush a0 (1 : Int32)) &&& (1431655765 : Int32))) &&& (858993459 : Int32)) + ((zush (a0 - ((zush a0 (1 : Int32)) &&& (1431655765 : Int32))) (2 : Int32)) &&& (858993459 : Int32))) (4 : Int32))) &&& (252645135 : Int32)) + (zush (((((a0 - ((zush a0 (1 : Int32)) &&& (1431655765 : Int32))) &&& (858993459 : Int32)) + ((zush (a0 - ((zush a0 (1 : Int32)) &&& (1431655765 : Int32))) (2 : Int32)) &&& (858993459 : Int32))) + (zush (((a0 - ((zush a0 (1 : Int32)) &&& (1431655765 : Int32))) &&& (858993459 : Int32)) + ((zush (a0 - ((zush a0 (1 : Int32)) &&& (1431655765 : Int32))) (2 : Int32)) &&& (858993459 : Int32))) (4 : Int32))) &&& (252645135 : Int32)) (8 : Int32))) (16 : Int32))) &&& (63 : Int32))
-- ExactShares2$Groups.count()I
def p_Gr_count  (M : Mem) : Option (Int32) :=
  bnd (p_Gr_there  M) fun q1 =>
  bnd (p_In_bitCount q1 M) fun q2 =>
  some q2
-- ExactShares2$Groups.columnsOf(I)I
def p_Gr_columnsOf_L4 (a1 : Int32) (M : Mem) (x2_4 : Int32) (x3_4 : Int32) : Option ((Int32 × Int32) ⊕ (Int32 × Int32)) :=
  if (M.1 17 0) ≤ x3_4 then
    some (.inr (x2_4, x3_4))
  else
    chk (inb x3_4 6) <|
    if ((a1 >>> ((M.1 18 (Int32.toNatClampNeg x3_4)) &&& 31)) &&& (1 : Int32)) = (1 : Int32) then
      some (.inl ((x2_4 ||| ((1 : Int32) <<< (x3_4 &&& 31))), (x3_4 + (1 : Int32))))
    else
      some (.inl (x2_4, (x3_4 + (1 : Int32))))
def p_Gr_columnsOf (a1 : Int32) (M : Mem) : Option (Int32) :=
  bnd (itr zfu (fun s => p_Gr_columnsOf_L4 a1 M s.1 s.2) ((0 : Int32), (0 : Int32))) fun q1 =>
  some q1.1
-- ExactShares2$Groups.ofColumn(I)I
def p_Gr_ofColumn (a1 : Int32) (M : Mem) : Option (Int32) :=
  chk (inb a1 6) <|
  some (M.1 18 (Int32.toNatClampNeg a1))
-- ExactShares2$Orders.start(I)V
def p_Or_start (a1 : Int32) (M : Mem) : Option (Mem) :=
  nm (wF M 22 3 a1) fun m1 =>
  some m1
-- ExactShares2$Orders.lineUp()V
def p_Or_lineUp_L15 (q1 : (Int32)) (x2_15 : Int32) (M_15 : Mem) : Option ((Int32 × Mem) ⊕ (Int32 × Mem)) :=
  if (6 : Int32) ≤ x2_15 then
    some (.inr (x2_15, M_15))
  else
    if ((q1 >>> (x2_15 &&& 31)) &&& (1 : Int32)) = (1 : Int32) then
      chk (inb (M_15.1 22 2) 6) <|
      nm (wI M_15 23 (M_15.1 22 2) x2_15) fun m15_4 =>
      nm (wF m15_4 22 2 ((m15_4.1 22 2) + (1 : Int32))) fun m15_5 =>
      some (.inl ((x2_15 + (1 : Int32)), m15_5))
    else
      some (.inl ((x2_15 + (1 : Int32)), M_15))
def p_Or_lineUp  (M : Mem) : Option (Mem) :=
  bnd (p_Gr_there  M) fun q1 =>
  nm (wF M 22 2 (0 : Int32)) fun m2 =>
  bnd (itr zfu (fun s => p_Or_lineUp_L15 q1 s.1 s.2) ((0 : Int32), m2)) fun q3 =>
  some q3.2
-- ExactShares2$Orders.below(I)I
def p_Or_below (a1 : Int32) (M : Mem) : Option (Int32 × Mem) :=
  nm (wF M 22 3 (((M.1 22 3) * (1103515245 : Int32)) + (12345 : Int32))) fun m1 =>
  if a1 ≤ 0 then
    some ((0 : Int32), m1)
  else
    chk (decide (¬ a1 = 0)) <|
    some (((zush (m1.1 22 3) (16 : Int32)) - (zush (m1.1 22 3) (16 : Int32)) / a1 * a1), m1)
-- ExactShares2$Orders.drawNext()V
def p_Or_drawNext_L11 (x1_11 : Int32) (M_11 : Mem) : Option ((Int32 × Mem) ⊕ (Int32 × Mem)) :=
  if x1_11 < (1 : Int32) then
    some (.inr (x1_11, M_11))
  else
    bnd (p_Or_below (x1_11 + (1 : Int32)) M_11) fun q11_2 =>
    chk (inb x1_11 6) <|
    chk (inb q11_2.1 6) <|
    chk (inb x1_11 6) <|
    nm (wI q11_2.2 23 x1_11 (q11_2.2.1 23 (Int32.toNatClampNeg q11_2.1))) fun m11_6 =>
    chk (inb q11_2.1 6) <|
    nm (wI m11_6 23 q11_2.1 (q11_2.2.1 23 (Int32.toNatClampNeg x1_11))) fun m11_8 =>
    some (.inl ((x1_11 + (-1 : Int32)), m11_8))
def p_Or_drawNext  (M : Mem) : Option (Mem) :=
  bnd (p_Or_lineUp  M) fun q1 =>
  bnd (itr zfu (fun s => p_Or_drawNext_L11 s.1 s.2) (((q1.1 22 2) - (1 : Int32)), q1)) fun q2 =>
  some q2.2
-- ExactShares2$Orders.groupsBefore(I)I
def p_Or_groupsBefore_L4 (a1 : Int32) (M : Mem) (x2_4 : Int32) (x3_4 : Int32) : Option ((Int32 × Int32) ⊕ (Int32 × Int32)) :=
  if (M.1 22 2) ≤ x3_4 then
    some (.inr (x2_4, x3_4))
  else
    chk (inb x3_4 6) <|
    if (M.1 23 (Int32.toNatClampNeg x3_4)) = a1 then
      some (.inr (x2_4, x3_4))
    else
      chk (inb x3_4 6) <|
      some (.inl ((x2_4 ||| ((1 : Int32) <<< ((M.1 23 (Int32.toNatClampNeg x3_4)) &&& 31))), (x3_4 + (1 : Int32))))
def p_Or_groupsBefore (a1 : Int32) (M : Mem) : Option (Int32) :=
  bnd (itr zfu (fun s => p_Or_groupsBefore_L4 a1 M s.1 s.2) ((0 : Int32), (0 : Int32))) fun q1 =>
  some q1.1
-- ExactShares2.factorial(I)J
def p_ES_factorial_L4 (a0 : Int32) (x1_4 : Int64) (x3_4 : Int32) : Option ((Int64 × Int32) ⊕ (Int64 × Int32)) :=
  if a0 < x3_4 then
    some (.inr (x1_4, x3_4))
  else
    some (.inl ((x1_4 * (Int32.toInt64 x3_4)), (x3_4 + (1 : Int32))))
def p_ES_factorial (a0 : Int32) (M : Mem) : Option (Int64) :=
  bnd (itr zfu (fun s => p_ES_factorial_L4 a0 s.1 s.2) ((1 : Int64), (2 : Int32))) fun q1 =>
  some q1.1
-- ExactShares2$Means.ordersAround(II)J
def p_Me_ordersAround (a0 : Int32) (a1 : Int32) (M : Mem) : Option (Int64) :=
  bnd (p_In_bitCount a0 M) fun q1 =>
  bnd (p_ES_factorial q1 M) fun q2 =>
  bnd (p_ES_factorial (a1 - q1) M) fun q3 =>
  some (q2 * q3)
-- ExactShares2$Means.mix(I[I[I)V
def p_Me_mix_L3 (a1 : Int32) (a2 : Nat) (a3 : Nat) (x4_3 : Int32) (M_3 : Mem) : Option ((Int32 × Mem) ⊕ (Int32 × Mem)) :=
  if (6 : Int32) ≤ x4_3 then
    some (.inr (x4_3, M_3))
  else
    if ((a1 >>> (x4_3 &&& 31)) &&& (1 : Int32)) = (1 : Int32) then
      chk (inb x4_3 (alenC a2)) <|
      chk (inb x4_3 6) <|
      nm (wI M_3 20 x4_3 (M_3.1 a2 (Int32.toNatClampNeg x4_3))) fun m3_8 =>
      some (.inl ((x4_3 + (1 : Int32)), m3_8))
    else
      chk (inb x4_3 (alenC a3)) <|
      chk (inb x4_3 6) <|
      nm (wI M_3 20 x4_3 (M_3.1 a3 (Int32.toNatClampNeg x4_3))) fun m3_5 =>
      some (.inl ((x4_3 + (1 : Int32)), m3_5))
def p_Me_mix (a1 : Int32) (a2 : Nat) (a3 : Nat) (M : Mem) : Option (Mem) :=
  bnd (itr zfu (fun s => p_Me_mix_L3 a1 a2 a3 s.1 s.2) ((0 : Int32), M)) fun q1 =>
  some q1.2
-- ExactShares2$Means.total(I)J
def p_Me_total_L5 (a1 : Int32) (x2_5 : Int64) (x4_5 : Int32) (M_5 : Mem) : Option ((Int64 × Int32 × Mem) ⊕ (Int64 × Int32 × Mem)) :=
  bnd (p_Rw_count  M_5) fun q5_1 =>
  if q5_1 ≤ x4_5 then
    some (.inr (x2_5, x4_5, M_5))
  else
    bnd (p_Rw_at (-1 : Int32) M_5) fun q5_3 =>
    bnd (p_Rw_at x4_5 M_5) fun q5_4 =>
    bnd (p_Me_mix a1 q5_3 q5_4 M_5) fun q5_5 =>
    bnd (p_Ln_sumFor 20 q5_5) fun q5_6 =>
    some (.inl ((x2_5 + (Int32.toInt64 q5_6)), (x4_5 + (1 : Int32)), q5_5))
def p_Me_total (a1 : Int32) (M : Mem) : Option (Int64 × Mem) :=
  bnd (itr zfu (fun s => p_Me_total_L5 a1 s.1 s.2.1 s.2.2) ((0 : Int64), (0 : Int32), M)) fun q1 =>
  some (q1.1, q1.2.2)
-- ExactShares2$Means.brought(II)J
def p_Me_brought (a1 : Int32) (a2 : Int32) (M : Mem) : Option (Int64 × Mem) :=
  bnd (p_Me_total (a1 ||| a2) M) fun q1 =>
  bnd (p_Me_total a1 q1.2) fun q2 =>
  some ((q1.1 - q2.1), q2.2)
-- ExactShares2$Means.shareSum(II)J
def p_Me_shareSum_L38 (a1 : Int32) (a2 : Int32) (q1 : (Int32)) (q2 : (Int32)) (q3 : (Int32)) (x6_38 : Int64) (x8_38 : Int32) (M_38 : Mem) : Option ((Int64 × Int32 × Mem) ⊕ (Int64 × Int32 × Mem)) :=
  if (q1 &&& (((1 : Int32) <<< (a1 &&& 31)) ^^^ (-1 : Int32))) < x8_38 then
    some (.inr (x6_38, x8_38, M_38))
  else
    if (x8_38 &&& ((q1 &&& (((1 : Int32) <<< (a1 &&& 31)) ^^^ (-1 : Int32))) ^^^ (-1 : Int32))) = 0 then
      if a2 = (1 : Int32) then
        bnd (p_Gr_columnsOf x8_38 M_38) fun q38_10 =>
        bnd (p_Me_brought q38_10 q2 M_38) fun q38_11 =>
        some (.inl ((x6_38 + ((1 : Int64) * q38_11.1)), (x8_38 + (1 : Int32)), q38_11.2))
      else
        bnd (p_Me_ordersAround x8_38 q3 M_38) fun q38_4 =>
        bnd (p_Gr_columnsOf x8_38 M_38) fun q38_5 =>
        bnd (p_Me_brought q38_5 q2 M_38) fun q38_6 =>
        some (.inl ((x6_38 + (q38_4 * q38_6.1)), (x8_38 + (1 : Int32)), q38_6.2))
    else
      some (.inl (x6_38, (x8_38 + (1 : Int32)), M_38))
def p_Me_shareSum (a1 : Int32) (a2 : Int32) (M : Mem) : Option (Int64 × Mem) :=
  bnd (p_Gr_there  M) fun q1 =>
  bnd (p_Gr_columnsOf ((1 : Int32) <<< (a1 &&& 31)) M) fun q2 =>
  bnd (p_In_bitCount (q1 &&& (((1 : Int32) <<< (a1 &&& 31)) ^^^ (-1 : Int32))) M) fun q3 =>
  bnd (itr zfu (fun s => p_Me_shareSum_L38 a1 a2 q1 q2 q3 s.1 s.2.1 s.2.2) ((0 : Int64), (0 : Int32), M)) fun q4 =>
  some (q4.1, q4.2.2)
-- ExactShares2$Means.measureShares()V
def p_Me_measureShares_L10 (q1 : (Int32)) (x2_10 : Int32) (M_10 : Mem) : Option ((Int32 × Mem) ⊕ (Int32 × Mem)) :=
  if (6 : Int32) ≤ x2_10 then
    some (.inr (x2_10, M_10))
  else
    if ((q1 >>> (x2_10 &&& 31)) &&& (1 : Int32)) = (1 : Int32) then
      bnd (p_Me_shareSum x2_10 (0 : Int32) M_10) fun q10_7 =>
      chk (inb x2_10 6) <|
      nm (wL q10_7.2 21 x2_10 (if 0 < q10_7.1 then q10_7.1 else -q10_7.1)) fun m10_9 =>
      some (.inl ((x2_10 + (1 : Int32)), m10_9))
    else
      chk (inb x2_10 6) <|
      nm (wL M_10 21 x2_10 (0 : Int64)) fun m10_5 =>
      some (.inl ((x2_10 + (1 : Int32)), m10_5))
def p_Me_measureShares  (M : Mem) : Option (Mem) :=
  bnd (p_Gr_there  M) fun q1 =>
  bnd (itr zfu (fun s => p_Me_measureShares_L10 q1 s.1 s.2) ((0 : Int32), M)) fun q2 =>
  some q2.2
-- ExactShares2$Means.countAhead(II)I
def p_Me_countAhead_L5 (a1 : Int32) (a2 : Int32) (M : Mem) (x3_5 : Int32) (x4_5 : Int32) : Option ((Int32 × Int32) ⊕ (Int32 × Int32)) :=
  if (6 : Int32) ≤ x4_5 then
    some (.inr (x3_5, x4_5))
  else
    chk (inb x4_5 6) <|
    chk (inb a1 6) <|
    if (lg_cmp (M.2 21 (Int32.toNatClampNeg x4_5)) (M.2 21 (Int32.toNatClampNeg a1))) = 0 then
      if a1 ≤ x4_5 then
        chk (inb x4_5 6) <|
        chk (inb a1 6) <|
        if 0 < (lg_cmp (M.2 21 (Int32.toNatClampNeg x4_5)) (M.2 21 (Int32.toNatClampNeg a1))) then
          if ((a2 >>> (x4_5 &&& 31)) &&& (1 : Int32)) = (1 : Int32) then
            some (.inl ((x3_5 + (1 : Int32)), (x4_5 + (1 : Int32))))
          else
            some (.inl (x3_5, (x4_5 + (1 : Int32))))
        else
          if ((a2 >>> (x4_5 &&& 31)) &&& (1 : Int32)) = (1 : Int32) then
            some (.inl (x3_5, (x4_5 + (1 : Int32))))
          else
            some (.inl (x3_5, (x4_5 + (1 : Int32))))
      else
        chk (inb x4_5 6) <|
        chk (inb a1 6) <|
        if 0 < (lg_cmp (M.2 21 (Int32.toNatClampNeg x4_5)) (M.2 21 (Int32.toNatClampNeg a1))) then
          if ((a2 >>> (x4_5 &&& 31)) &&& (1 : Int32)) = (1 : Int32) then
            some (.inl ((x3_5 + (1 : Int32)), (x4_5 + (1 : Int32))))
          else
            some (.inl (x3_5, (x4_5 + (1 : Int32))))
        else
          if ((a2 >>> (x4_5 &&& 31)) &&& (1 : Int32)) = (1 : Int32) then
            some (.inl ((x3_5 + (1 : Int32)), (x4_5 + (1 : Int32))))
          else
            some (.inl (x3_5, (x4_5 + (1 : Int32))))
    else
      chk (inb x4_5 6) <|
      chk (inb a1 6) <|
      if 0 < (lg_cmp (M.2 21 (Int32.toNatClampNeg x4_5)) (M.2 21 (Int32.toNatClampNeg a1))) then
        if ((a2 >>> (x4_5 &&& 31)) &&& (1 : Int32)) = (1 : Int32) then
          some (.inl ((x3_5 + (1 : Int32)), (x4_5 + (1 : Int32))))
        else
          some (.inl (x3_5, (x4_5 + (1 : Int32))))
      else
        if ((a2 >>> (x4_5 &&& 31)) &&& (1 : Int32)) = (1 : Int32) then
          some (.inl (x3_5, (x4_5 + (1 : Int32))))
        else
          some (.inl (x3_5, (x4_5 + (1 : Int32))))
def p_Me_countAhead (a1 : Int32) (a2 : Int32) (M : Mem) : Option (Int32) :=
  bnd (itr zfu (fun s => p_Me_countAhead_L5 a1 a2 M s.1 s.2) ((0 : Int32), (0 : Int32))) fun q1 =>
  some q1.1
-- ExactShares2$Means.groupAtPlace(I)I
def p_Me_groupAtPlace_L10 (a1 : Int32) (M : Mem) (q1 : (Int32)) (x3_10 : Int32) : Option ((Int32) ⊕ ((Int32) ⊕ (Int32))) :=
  if (6 : Int32) ≤ x3_10 then
    some (.inr (.inl (x3_10)))
  else
    if ((q1 >>> (x3_10 &&& 31)) &&& (1 : Int32)) = (1 : Int32) then
      bnd (p_Me_countAhead x3_10 q1 M) fun q10_3 =>
      if q10_3 = a1 then
        some (.inr (.inr x3_10))
      else
        some (.inl ((x3_10 + (1 : Int32))))
    else
      some (.inl ((x3_10 + (1 : Int32))))
def p_Me_groupAtPlace (a1 : Int32) (M : Mem) : Option (Int32) :=
  bnd (p_Gr_there  M) fun q1 =>
  bnd (itr zfu (fun s => p_Me_groupAtPlace_L10 a1 M q1 s) ((0 : Int32))) fun e => match e with
    | .inr r => some r
    | .inl q2 =>
      some (-1 : Int32)
-- ExactShares2$Means.shareWays(I)J
def p_Me_shareWays (a1 : Int32) (M : Mem) : Option (Int64) :=
  bnd (p_Gr_count  M) fun q1 =>
  if a1 = (1 : Int32) then
    some (zlsh (1 : Int64) (q1 - (1 : Int32)))
  else
    bnd (p_ES_factorial q1 M) fun q3 =>
    some q3
-- ExactShares2$Means.togetherSum(II)J
def p_Me_togetherSum_L56 (a1 : Int32) (a2 : Int32) (q1 : (Int32)) (q2 : (Int32)) (q3 : (Int32)) (q4 : (Int32)) (x7_56 : Int64) (x9_56 : Int32) (M_56 : Mem) : Option ((Int64 × Int32 × Mem) ⊕ (Int64 × Int32 × Mem)) :=
  if ((q1 &&& (((1 : Int32) <<< (a1 &&& 31)) ^^^ (-1 : Int32))) &&& (((1 : Int32) <<< (a2 &&& 31)) ^^^ (-1 : Int32))) < x9_56 then
    some (.inr (x7_56, x9_56, M_56))
  else
    if (x9_56 &&& (((q1 &&& (((1 : Int32) <<< (a1 &&& 31)) ^^^ (-1 : Int32))) &&& (((1 : Int32) <<< (a2 &&& 31)) ^^^ (-1 : Int32))) ^^^ (-1 : Int32))) = 0 then
      bnd (p_Gr_columnsOf x9_56 M_56) fun q56_3 =>
      bnd (p_Me_brought (q56_3 ||| q3) q2 M_56) fun q56_4 =>
      bnd (p_Me_brought q56_3 q2 q56_4.2) fun q56_5 =>
      bnd (p_Me_ordersAround x9_56 q4 q56_5.2) fun q56_6 =>
      some (.inl ((x7_56 + (q56_6 * (q56_4.1 - q56_5.1))), (x9_56 + (1 : Int32)), q56_5.2))
    else
      some (.inl (x7_56, (x9_56 + (1 : Int32)), M_56))
def p_Me_togetherSum (a1 : Int32) (a2 : Int32) (M : Mem) : Option (Int64 × Mem) :=
  bnd (p_Gr_there  M) fun q1 =>
  bnd (p_Gr_columnsOf ((1 : Int32) <<< (a1 &&& 31)) M) fun q2 =>
  bnd (p_Gr_columnsOf ((1 : Int32) <<< (a2 &&& 31)) M) fun q3 =>
  bnd (p_In_bitCount ((q1 &&& (((1 : Int32) <<< (a1 &&& 31)) ^^^ (-1 : Int32))) &&& (((1 : Int32) <<< (a2 &&& 31)) ^^^ (-1 : Int32))) M) fun q4 =>
  bnd (itr zfu (fun s => p_Me_togetherSum_L56 a1 a2 q1 q2 q3 q4 s.1 s.2.1 s.2.2) ((0 : Int64), (0 : Int32), M)) fun q5 =>
  some (q5.1, q5.2.2)
-- ExactShares2$Means.togetherWays()J
def p_Me_togetherWays  (M : Mem) : Option (Int64) :=
  bnd (p_Gr_count  M) fun q1 =>
  bnd (p_ES_factorial (q1 - (1 : Int32)) M) fun q2 =>
  some q2
-- ExactShares2$Means.drawnSum(III)J
def p_Me_drawnSum_L26 (a1 : Int32) (a3 : Int32) (q1 : (Int32)) (x5_26 : Int64) (x7_26 : Int32) (M_26 : Mem) : Option ((Int64 × Int32 × Mem) ⊕ (Int64 × Int32 × Mem)) :=
  if a3 ≤ x7_26 then
    some (.inr (x5_26, x7_26, M_26))
  else
    bnd (p_Or_drawNext  M_26) fun q26_2 =>
    bnd (p_Or_groupsBefore a1 q26_2) fun q26_3 =>
    bnd (p_Gr_columnsOf q26_3 q26_2) fun q26_4 =>
    bnd (p_Me_brought q26_4 q1 q26_2) fun q26_5 =>
    some (.inl ((x5_26 + q26_5.1), (x7_26 + (1 : Int32)), q26_5.2))
def p_Me_drawnSum (a1 : Int32) (a2 : Int32) (a3 : Int32) (M : Mem) : Option (Int64 × Mem) :=
  bnd (p_Gr_columnsOf ((1 : Int32) <<< (a1 &&& 31)) M) fun q1 =>
  bnd (p_Or_start a2 M) fun q2 =>
  bnd (itr zfu (fun s => p_Me_drawnSum_L26 a1 a3 q1 s.1 s.2.1 s.2.2) ((0 : Int64), (0 : Int32), q2)) fun q3 =>
  some (q3.1, q3.2.2)
-- ExactShares2$Means.sumWith([III)J
def p_Me_sumWith_L3 (a1 : Nat) (a2 : Int32) (a3 : Int32) (x4_3 : Int32) (M_3 : Mem) : Option ((Int32 × Mem) ⊕ (Int32 × Mem)) :=
  if (6 : Int32) ≤ x4_3 then
    some (.inr (x4_3, M_3))
  else
    if x4_3 = a2 then
      chk (inb x4_3 6) <|
      nm (wI M_3 20 x4_3 a3) fun m3_7 =>
      some (.inl ((x4_3 + (1 : Int32)), m3_7))
    else
      chk (inb x4_3 (alenC a1)) <|
      chk (inb x4_3 6) <|
      nm (wI M_3 20 x4_3 (M_3.1 a1 (Int32.toNatClampNeg x4_3))) fun m3_5 =>
      some (.inl ((x4_3 + (1 : Int32)), m3_5))
def p_Me_sumWith (a1 : Nat) (a2 : Int32) (a3 : Int32) (M : Mem) : Option (Int64 × Mem) :=
  bnd (itr zfu (fun s => p_Me_sumWith_L3 a1 a2 a3 s.1 s.2) ((0 : Int32), M)) fun q1 =>
  bnd (p_Ln_sumFor 20 q1.2) fun q2 =>
  some ((Int32.toInt64 q2), q1.2)
-- ExactShares2$Means.replacedSum(II)J
def p_Me_replacedSum_L5 (a1 : Int32) (a2 : Int32) (x3_5 : Int64) (x5_5 : Int32) (M_5 : Mem) : Option ((Int64 × Int32 × Mem) ⊕ (Int64 × Int32 × Mem)) :=
  bnd (p_Rw_count  M_5) fun q5_1 =>
  if q5_1 ≤ x5_5 then
    some (.inr (x3_5, x5_5, M_5))
  else
    bnd (p_Rw_at x5_5 M_5) fun q5_3 =>
    bnd (p_Me_sumWith q5_3 a1 a2 M_5) fun q5_4 =>
    some (.inl ((x3_5 + q5_4.1), (x5_5 + (1 : Int32)), q5_4.2))
def p_Me_replacedSum (a1 : Int32) (a2 : Int32) (M : Mem) : Option (Int64 × Mem) :=
  bnd (itr zfu (fun s => p_Me_replacedSum_L5 a1 a2 s.1 s.2.1 s.2.2) ((0 : Int64), (0 : Int32), M)) fun q1 =>
  some (q1.1, q1.2.2)
-- ExactShares2$Means.changeSum(I)J
def p_Me_changeSum_L43 (a1 : Int32) (q5_3 : (Nat)) (q5_4 : (Int32)) (x2_43 : Int64) (x8_43 : Int32) (M_43 : Mem) : Option ((Int64 × Int32 × Mem) ⊕ (Int64 × Int32 × Mem)) :=
  bnd (p_Rw_count  M_43) fun q43_1 =>
  if q43_1 ≤ x8_43 then
    some (.inr (x2_43, x8_43, M_43))
  else
    bnd (p_Rw_at x8_43 M_43) fun q43_3 =>
    chk (inb a1 (alenC q43_3)) <|
    bnd (p_Me_sumWith q5_3 a1 (M_43.1 q43_3 (Int32.toNatClampNeg a1)) M_43) fun q43_5 =>
    some (.inl ((x2_43 + ((q43_5.1 - (Int32.toInt64 q5_4)) * (q43_5.1 - (Int32.toInt64 q5_4)))), (x8_43 + (1 : Int32)), q43_5.2))
def p_Me_changeSum_L5 (a1 : Int32) (x2_5 : Int64) (x4_5 : Int32) (M_5 : Mem) : Option ((Int64 × Int32 × Mem) ⊕ (Int64 × Int32 × Mem)) :=
  bnd (p_Rw_count  M_5) fun q5_1 =>
  if q5_1 ≤ x4_5 then
    some (.inr (x2_5, x4_5, M_5))
  else
    bnd (p_Rw_at x4_5 M_5) fun q5_3 =>
    bnd (p_Ln_sumFor q5_3 M_5) fun q5_4 =>
    bnd (itr zfu (fun s => p_Me_changeSum_L43 a1 q5_3 q5_4 s.1 s.2.1 s.2.2) (x2_5, (0 : Int32), M_5)) fun q5_5 =>
    some (.inl (q5_5.1, (x4_5 + (1 : Int32)), q5_5.2.2))
def p_Me_changeSum (a1 : Int32) (M : Mem) : Option (Int64 × Mem) :=
  bnd (itr zfu (fun s => p_Me_changeSum_L5 a1 s.1 s.2.1 s.2.2) ((0 : Int64), (0 : Int32), M)) fun q1 =>
  some (q1.1, q1.2.2)
-- ExactShares2$Search.unbarAll()V
def p_Se_unbarAll_L2 (x1_2 : Int32) (M_2 : Mem) : Option ((Int32 × Mem) ⊕ (Int32 × Mem)) :=
  if (6 : Int32) ≤ x1_2 then
    some (.inr (x1_2, M_2))
  else
    chk (inb x1_2 6) <|
    nm (wI M_2 25 x1_2 (vp_nar .boolean (0 : Int32))) fun m2_3 =>
    some (.inl ((x1_2 + (1 : Int32)), m2_3))
def p_Se_unbarAll  (M : Mem) : Option (Mem) :=
  bnd (itr zfu (fun s => p_Se_unbarAll_L2 s.1 s.2) ((0 : Int32), M)) fun q1 =>
  some q1.2
-- ExactShares2$Search.setBarred(IZ)Z
def p_Se_setBarred (a1 : Int32) (a2 : Int32) (M : Mem) : Option (Int32 × Mem) :=
  chk (inb a1 6) <|
  chk (inb a1 6) <|
  nm (wI M 25 a1 (vp_nar .boolean a2)) fun m3 =>
  chk (zbl (M.1 25 (Int32.toNatClampNeg a1))) <|
  some ((M.1 25 (Int32.toNatClampNeg a1)), m3)
-- ExactShares2$Search.addChoice(II)V
def p_Se_addChoice_L18 (a1 : Int32) (a2 : Int32) (M : Mem) (x5_18 : Int32) : Option ((Int32) ⊕ (Int32)) :=
  if (M.1 33 (Int32.toNatClampNeg a1)) ≤ x5_18 then
    some (.inr (x5_18))
  else
    chk (inb x5_18 (alenC (27 + Int32.toNatClampNeg a1))) <|
    if a2 ≤ (M.1 (27 + Int32.toNatClampNeg a1) (Int32.toNatClampNeg x5_18)) then
      some (.inr (x5_18))
    else
      some (.inl ((x5_18 + (1 : Int32))))
def p_Se_addChoice_L78 (a1 : Int32) (q3 : (Int32)) (x7_78 : Int32) (M_78 : Mem) : Option ((Int32 × Mem) ⊕ (Int32 × Mem)) :=
  if x7_78 ≤ q3 then
    some (.inr (x7_78, M_78))
  else
    chk (inb (x7_78 - (1 : Int32)) (alenC (27 + Int32.toNatClampNeg a1))) <|
    chk (inb x7_78 (alenC (27 + Int32.toNatClampNeg a1))) <|
    nm (wI M_78 (27 + Int32.toNatClampNeg a1) x7_78 (M_78.1 (27 + Int32.toNatClampNeg a1) (Int32.toNatClampNeg (x7_78 - (1 : Int32))))) fun m78_4 =>
    some (.inl ((x7_78 + (-1 : Int32)), m78_4))
def p_Se_addChoice (a1 : Int32) (a2 : Int32) (M : Mem) : Option (Mem) :=
  chk (inb a1 6) <|
  chk (inb a1 6) <|
  bnd (itr zfu (fun s => p_Se_addChoice_L18 a1 a2 M s) ((0 : Int32))) fun q3 =>
  if (M.1 33 (Int32.toNatClampNeg a1)) ≤ q3 then
    chk (decide (0 < alenC (27 + Int32.toNatClampNeg a1))) <|
    if (M.1 33 (Int32.toNatClampNeg a1)) < (nI (alenC (27 + Int32.toNatClampNeg a1))) then
      bnd (itr zfu (fun s => p_Se_addChoice_L78 a1 q3 s.1 s.2) ((M.1 33 (Int32.toNatClampNeg a1)), M)) fun q8 =>
      chk (inb q3 (alenC (27 + Int32.toNatClampNeg a1))) <|
      nm (wI q8.2 (27 + Int32.toNatClampNeg a1) q3 a2) fun m10 =>
      chk (inb a1 6) <|
      nm (wI m10 33 a1 ((M.1 33 (Int32.toNatClampNeg a1)) + (1 : Int32))) fun m12 =>
      some m12
    else
      some M
  else
    chk (inb q3 (alenC (27 + Int32.toNatClampNeg a1))) <|
    if (M.1 (27 + Int32.toNatClampNeg a1) (Int32.toNatClampNeg q3)) = a2 then
      some M
    else
      chk (decide (0 < alenC (27 + Int32.toNatClampNeg a1))) <|
      if (M.1 33 (Int32.toNatClampNeg a1)) < (nI (alenC (27 + Int32.toNatClampNeg a1))) then
        bnd (itr zfu (fun s => p_Se_addChoice_L78 a1 q3 s.1 s.2) ((M.1 33 (Int32.toNatClampNeg a1)), M)) fun q18 =>
        chk (inb q3 (alenC (27 + Int32.toNatClampNeg a1))) <|
        nm (wI q18.2 (27 + Int32.toNatClampNeg a1) q3 a2) fun m20 =>
        chk (inb a1 6) <|
        nm (wI m20 33 a1 ((M.1 33 (Int32.toNatClampNeg a1)) + (1 : Int32))) fun m22 =>
        some m22
      else
        some M
-- ExactShares2$Search.gatherChoices(I)V
def p_Se_gatherChoices_L34 (a1 : Int32) (x2_34 : Int32) (M_34 : Mem) : Option ((Int32 × Mem) ⊕ (Int32 × Mem)) :=
  bnd (p_Rw_count  M_34) fun q34_1 =>
  if q34_1 ≤ x2_34 then
    some (.inr (x2_34, M_34))
  else
    bnd (p_Rw_at x2_34 M_34) fun q34_3 =>
    chk (inb a1 (alenC q34_3)) <|
    bnd (p_Se_addChoice a1 (M_34.1 q34_3 (Int32.toNatClampNeg a1)) M_34) fun q34_5 =>
    some (.inl ((x2_34 + (1 : Int32)), q34_5))
def p_Se_gatherChoices (a1 : Int32) (M : Mem) : Option (Mem) :=
  chk (inb a1 6) <|
  nm (wI M 33 a1 (0 : Int32)) fun m2 =>
  bnd (p_Rw_at (-1 : Int32) m2) fun q3 =>
  chk (inb a1 (alenC q3)) <|
  bnd (p_Se_addChoice a1 (m2.1 q3 (Int32.toNatClampNeg a1)) m2) fun q5 =>
  chk (inb a1 6) <|
  if (q5.1 25 (Int32.toNatClampNeg a1)) = 0 then
    bnd (itr zfu (fun s => p_Se_gatherChoices_L34 a1 s.1 s.2) ((0 : Int32), q5)) fun q8 =>
    some q8.2
  else
    some q5
-- ExactShares2$Search.open(I)V
def p_Se_open (a1 : Int32) (M : Mem) : Option (Mem) :=
  chk (inb a1 6) <|
  chk (inb (0 : Int32) (alenC (27 + Int32.toNatClampNeg a1))) <|
  chk (inb a1 6) <|
  nm (wI M 34 a1 (M.1 (27 + Int32.toNatClampNeg a1) (Int32.toNatClampNeg (0 : Int32)))) fun m4 =>
  chk (inb a1 6) <|
  chk (inb a1 6) <|
  chk (inb ((m4.1 33 (Int32.toNatClampNeg a1)) - (1 : Int32)) (alenC (27 + Int32.toNatClampNeg a1))) <|
  chk (inb a1 6) <|
  nm (wI m4 35 a1 (m4.1 (27 + Int32.toNatClampNeg a1) (Int32.toNatClampNeg ((m4.1 33 (Int32.toNatClampNeg a1)) - (1 : Int32))))) fun m9 =>
  some m9
-- ExactShares2$Search.costOf(II)I
def p_Se_costOf (a1 : Int32) (a2 : Int32) (M : Mem) : Option (Int32) :=
  bnd (p_Rw_at (-1 : Int32) M) fun q1 =>
  chk (inb a1 (alenC q1)) <|
  if (if 0 ≤ (a2 - (M.1 q1 (Int32.toNatClampNeg a1))) then (a2 - (M.1 q1 (Int32.toNatClampNeg a1))) else 0 - (a2 - (M.1 q1 (Int32.toNatClampNeg a1)))) = 0 then
    some (0 : Int32)
  else
    some ((10000 : Int32) + (if 0 ≤ (a2 - (M.1 q1 (Int32.toNatClampNeg a1))) then (a2 - (M.1 q1 (Int32.toNatClampNeg a1))) else 0 - (a2 - (M.1 q1 (Int32.toNatClampNeg a1)))))
-- ExactShares2$Search.keep(I)V
def p_Se_keep_L7 (x2_7 : Int32) (M_7 : Mem) : Option ((Int32 × Mem) ⊕ (Int32 × Mem)) :=
  if (M_7.1 24 0) ≤ x2_7 then
    some (.inr (x2_7, M_7))
  else
    chk (inb x2_7 6) <|
    chk (inb x2_7 6) <|
    nm (wI M_7 36 x2_7 (M_7.1 34 (Int32.toNatClampNeg x2_7))) fun m7_4 =>
    some (.inl ((x2_7 + (1 : Int32)), m7_4))
def p_Se_keep (a1 : Int32) (M : Mem) : Option (Mem) :=
  nm (wF M 24 9 a1) fun m1 =>
  bnd (itr zfu (fun s => p_Se_keep_L7 s.1 s.2) ((0 : Int32), m1)) fun q2 =>
  some q2.2
-- ExactShares2$Search.differing()I
def p_Se_differing  (M : Mem) : Option (Int32) :=
  chk (decide (¬ (10000 : Int32) = 0)) <|
  some ((M.1 24 9) / (10000 : Int32))
-- ExactShares2$Search.foundIn(I)I
def p_Se_foundIn (a1 : Int32) (M : Mem) : Option (Int32) :=
  chk (inb a1 6) <|
  some (M.1 36 (Int32.toNatClampNeg a1))
-- ExactShares2.isWithin(II)Z
def p_ES_isWithin (a0 : Int32) (a1 : Int32) (M : Mem) : Option (Int32) :=
  if a0 < (-a1) then
    some (0 : Int32)
  else
    if a1 < a0 then
      some (0 : Int32)
    else
      some (1 : Int32)
-- ExactShares2.leaf(I)I
def p_ES_leaf (a1 : Int32) (M : Mem) : Option (Int32 × Mem) :=
  bnd (p_ES_isWithin a1 (1000 : Int32) M) fun q1 =>
  if q1 = 0 then
    some ((-2 : Int32), M)
  else
    bnd (p_Ln_addLeaf a1 M) fun q3 =>
    some (q3.1, q3.2)
-- ExactShares2.isColumn(I)Z
def p_ES_isColumn (a1 : Int32) (M : Mem) : Option (Int32) :=
  if a1 < 0 then
    some (0 : Int32)
  else
    if (M.1 0 0) ≤ a1 then
      some (0 : Int32)
    else
      some (1 : Int32)
-- ExactShares2.split(IIII)I
def p_ES_split (a1 : Int32) (a2 : Int32) (a3 : Int32) (a4 : Int32) (M : Mem) : Option (Int32 × Mem) :=
  bnd (p_ES_isColumn a1 M) fun q1 =>
  if q1 = 0 then
    some ((-1 : Int32), M)
  else
    bnd (p_Ln_hasNode a3 M) fun q3 =>
    if q3 = 0 then
      some ((-1 : Int32), M)
    else
      bnd (p_Ln_hasNode a4 M) fun q5 =>
      if q5 = 0 then
        some ((-1 : Int32), M)
      else
        bnd (p_ES_isWithin a2 (100 : Int32) M) fun q7 =>
        if q7 = 0 then
          some ((-2 : Int32), M)
        else
          bnd (p_Ln_addSplit a1 a2 a3 a4 M) fun q9 =>
          some (q9.1, q9.2)
-- ExactShares2.root(I)I
def p_ES_root (a1 : Int32) (M : Mem) : Option (Int32 × Mem) :=
  bnd (p_Ln_hasNode a1 M) fun q1 =>
  if q1 = 0 then
    some ((-1 : Int32), M)
  else
    bnd (p_Ln_addRoot a1 M) fun q3 =>
    some (q3.1, q3.2)
-- ExactShares2.weight(II)I
def p_ES_weight (a1 : Int32) (a2 : Int32) (M : Mem) : Option (Int32 × Mem) :=
  bnd (p_ES_isColumn a1 M) fun q1 =>
  if q1 = 0 then
    some ((-1 : Int32), M)
  else
    bnd (p_ES_isWithin a2 (20 : Int32) M) fun q3 =>
    if q3 = 0 then
      some ((-2 : Int32), M)
    else
      bnd (p_Ln_weigh a1 a2 M) fun q5 =>
      some ((1 : Int32), q5)
-- ExactShares2.clear()I
def p_ES_clear  (M : Mem) : Option (Int32 × Mem) :=
  bnd (p_Ln_forget  M) fun q1 =>
  bnd (p_Rw_forget  q1.2) fun q2 =>
  bnd (p_Gr_standAlone  q2) fun q3 =>
  bnd (p_Se_unbarAll  q3) fun q4 =>
  some (q1.1, q4)
-- ExactShares2.background()I
def p_ES_background  (M : Mem) : Option (Int32 × Mem) :=
  bnd (p_Rw_addRow  M) fun q1 =>
  some (q1.1, q1.2)
-- ExactShares2.item(III)I
def p_ES_item (a1 : Int32) (a2 : Int32) (a3 : Int32) (M : Mem) : Option (Int32 × Mem) :=
  bnd (p_Rw_has a1 M) fun q1 =>
  if q1 = 0 then
    some ((-1 : Int32), M)
  else
    bnd (p_ES_isColumn a2 M) fun q3 =>
    if q3 = 0 then
      some ((-1 : Int32), M)
    else
      bnd (p_ES_isWithin a3 (100 : Int32) M) fun q5 =>
      if q5 = 0 then
        some ((-2 : Int32), M)
      else
        bnd (p_Rw_at a1 M) fun q7 =>
        chk (inb a2 (alenC q7)) <|
        nm (wI M q7 a2 a3) fun m9 =>
        some ((1 : Int32), m9)
-- ExactShares2.group(II)I
def p_ES_group (a1 : Int32) (a2 : Int32) (M : Mem) : Option (Int32 × Mem) :=
  bnd (p_ES_isColumn a1 M) fun q1 =>
  if q1 = 0 then
    some ((-1 : Int32), M)
  else
    bnd (p_ES_isColumn a2 M) fun q3 =>
    if q3 = 0 then
      some ((-2 : Int32), M)
    else
      bnd (p_Gr_move a1 a2 M) fun q5 =>
      some (q5.1, q5.2)
-- ExactShares2.answer(I)J
def p_ES_answer (a1 : Int32) (M : Mem) : Option (Int64) :=
  bnd (p_Rw_has a1 M) fun q1 =>
  if q1 = 0 then
    some (-1000000000000 : Int64)
  else
    bnd (p_Rw_at a1 M) fun q3 =>
    bnd (p_Ln_sumFor q3 M) fun q4 =>
    some (Int32.toInt64 q4)
-- ExactShares2.rank(I)I
def p_ES_rank (a1 : Int32) (M : Mem) : Option (Int32 × Mem) :=
  if a1 < 0 then
    some ((-1 : Int32), M)
  else
    bnd (p_Gr_count  M) fun q2 =>
    if a1 < q2 then
      bnd (p_Rw_count  M) fun q4 =>
      if q4 = 0 then
        some ((-3 : Int32), M)
      else
        bnd (p_Me_measureShares  M) fun q6 =>
        bnd (p_Me_groupAtPlace a1 q6) fun q7 =>
        some (q7, q6)
    else
      some ((-1 : Int32), M)
-- ExactShares2.bar(IZ)I
def p_ES_bar (a1 : Int32) (a2 : Int32) (M : Mem) : Option (Int32 × Mem) :=
  bnd (p_ES_isColumn a1 M) fun q1 =>
  if q1 = 0 then
    some ((-1 : Int32), M)
  else
    bnd (p_Se_setBarred a1 a2 M) fun q3 =>
    if q3.1 = 0 then
      some ((0 : Int32), q3.2)
    else
      some ((1 : Int32), q3.2)
-- ExactShares2.isPart(I)Z
def p_ES_isPart (a0 : Int32) (M : Mem) : Option (Int32) :=
  if a0 = 0 then
    some (1 : Int32)
  else
    if a0 = (1 : Int32) then
      some (1 : Int32)
    else
      some (0 : Int32)
-- ExactShares2.commonDivisor(JJ)J
def p_ES_commonDivisor_L9 (x4_9 : Int64) (x6_9 : Int64) (x8_9 : Int32) : Option ((Int64 × Int64 × Int32) ⊕ (Int64 × Int64 × Int32)) :=
  if (100 : Int32) ≤ x8_9 then
    some (.inr (x4_9, x6_9, x8_9))
  else
    if (lg_cmp x6_9 (0 : Int64)) = 0 then
      some (.inr (x4_9, x6_9, x8_9))
    else
      chk (decide (¬ x6_9 = 0)) <|
      some (.inl (x6_9, (x4_9 - x4_9 / x6_9 * x6_9), (x8_9 + (1 : Int32))))
def p_ES_commonDivisor (a0 : Int64) (a2 : Int64) (M : Mem) : Option (Int64) :=
  bnd (itr zfu (fun s => p_ES_commonDivisor_L9 s.1 s.2.1 s.2.2) (a0, a2, (0 : Int32))) fun q1 =>
  some q1.1
-- ExactShares2.isManner(I)Z
def p_ES_isManner (a0 : Int32) (M : Mem) : Option (Int32) :=
  if a0 = 0 then
    some (1 : Int32)
  else
    if a0 = (1 : Int32) then
      some (1 : Int32)
    else
      some (0 : Int32)
end
section
-- ExactShares2Model.clear()I
def p_Md_clear_L27 (x2_27 : Int32) (M_27 : Mem) : Option ((Int32 × Mem) ⊕ (Int32 × Mem)) :=
  if (6 : Int32) ≤ x2_27 then
    some (.inr (x2_27, M_27))
  else
    chk (inb x2_27 6) <|
    nm (wI M_27 7 x2_27 (0 : Int32)) fun m27_3 =>
    chk (inb x2_27 36) <|
    nm (wI m27_3 10 x2_27 (0 : Int32)) fun m27_5 =>
    chk (inb x2_27 6) <|
    nm (wI m27_5 8 x2_27 x2_27) fun m27_7 =>
    chk (inb x2_27 6) <|
    nm (wI m27_7 9 x2_27 (vp_nar .boolean (0 : Int32))) fun m27_9 =>
    some (.inl ((x2_27 + (1 : Int32)), m27_9))
def p_Md_clear  (M : Mem) : Option (Int32 × Mem) :=
  nm (wF M 0 0 (0 : Int32)) fun m1 =>
  nm (wF m1 0 2 (0 : Int32)) fun m2 =>
  nm (wF m2 0 8 (0 : Int32)) fun m3 =>
  nm (wF m3 0 13 (0 : Int32)) fun m4 =>
  bnd (itr zfu (fun s => p_Md_clear_L27 s.1 s.2) ((0 : Int32), m4)) fun q5 =>
  some ((m1.1 0 2), q5.2)
-- ExactShares2Model.thrown()I
def p_Md_thrown  (M : Mem) : Option (Int32) :=
  some (M.1 0 0)
-- ExactShares2Model.in(III)Z
def p_Md_in (a0 : Int32) (a1 : Int32) (a2 : Int32) (M : Mem) : Option (Int32) :=
  if a0 < a1 then
    some (0 : Int32)
  else
    if a2 < a0 then
      some (0 : Int32)
    else
      some (1 : Int32)
-- ExactShares2Model.leaf(I)I
def p_Md_leaf (a1 : Int32) (M : Mem) : Option (Int32 × Mem) :=
  nm (wF M 0 0 (0 : Int32)) fun m1 =>
  bnd (p_Md_in a1 (-1000 : Int32) (1000 : Int32) m1) fun q2 =>
  if q2 = 0 then
    some ((-2 : Int32), m1)
  else
    if (m1.1 0 2) = (30 : Int32) then
      some ((-4 : Int32), m1)
    else
      chk (inb (m1.1 0 2) 30) <|
      nm (wI m1 1 (m1.1 0 2) (vp_nar .boolean (1 : Int32))) fun m6 =>
      chk (inb (m6.1 0 2) 30) <|
      nm (wI m6 2 (m6.1 0 2) a1) fun m8 =>
      nm (wF m8 0 2 ((m8.1 0 2) + (1 : Int32))) fun m9 =>
      some (((m9.1 0 2) - (1 : Int32)), m9)
-- ExactShares2Model.isColumn(I)Z
def p_Md_isColumn (a1 : Int32) (M : Mem) : Option (Int32) :=
  bnd (p_Md_in a1 (0 : Int32) ((M.1 0 1) - (1 : Int32)) M) fun q1 =>
  chk (zbl q1) <|
  some q1
-- ExactShares2Model.split(IIII)I
def p_Md_split (a1 : Int32) (a2 : Int32) (a3 : Int32) (a4 : Int32) (M : Mem) : Option (Int32 × Mem) :=
  nm (wF M 0 0 (0 : Int32)) fun m1 =>
  bnd (p_Md_isColumn a1 m1) fun q2 =>
  if q2 = 0 then
    some ((-1 : Int32), m1)
  else
    bnd (p_Md_in a3 (0 : Int32) ((m1.1 0 2) - (1 : Int32)) m1) fun q4 =>
    if q4 = 0 then
      some ((-1 : Int32), m1)
    else
      bnd (p_Md_in a4 (0 : Int32) ((m1.1 0 2) - (1 : Int32)) m1) fun q6 =>
      if q6 = 0 then
        some ((-1 : Int32), m1)
      else
        bnd (p_Md_in a2 (-100 : Int32) (100 : Int32) m1) fun q8 =>
        if q8 = 0 then
          some ((-2 : Int32), m1)
        else
          if (m1.1 0 2) = (30 : Int32) then
            some ((-4 : Int32), m1)
          else
            chk (inb (m1.1 0 2) 30) <|
            nm (wI m1 1 (m1.1 0 2) (vp_nar .boolean (0 : Int32))) fun m12 =>
            chk (inb (m12.1 0 2) 30) <|
            nm (wI m12 2 (m12.1 0 2) a2) fun m14 =>
            chk (inb (m14.1 0 2) 30) <|
            nm (wI m14 3 (m14.1 0 2) a1) fun m16 =>
            chk (inb (m16.1 0 2) 30) <|
            nm (wI m16 4 (m16.1 0 2) a3) fun m18 =>
            chk (inb (m18.1 0 2) 30) <|
            nm (wI m18 5 (m18.1 0 2) a4) fun m20 =>
            nm (wF m20 0 2 ((m20.1 0 2) + (1 : Int32))) fun m21 =>
            some (((m21.1 0 2) - (1 : Int32)), m21)
-- ExactShares2Model.root(I)I
def p_Md_root (a1 : Int32) (M : Mem) : Option (Int32 × Mem) :=
  nm (wF M 0 0 (0 : Int32)) fun m1 =>
  bnd (p_Md_in a1 (0 : Int32) ((m1.1 0 2) - (1 : Int32)) m1) fun q2 =>
  if q2 = 0 then
    some ((-1 : Int32), m1)
  else
    if (m1.1 0 8) = (4 : Int32) then
      some ((-4 : Int32), m1)
    else
      chk (inb (m1.1 0 8) 4) <|
      nm (wI m1 6 (m1.1 0 8) a1) fun m6 =>
      nm (wF m6 0 8 ((m6.1 0 8) + (1 : Int32))) fun m7 =>
      some ((m7.1 0 8), m7)
-- ExactShares2Model.weight(II)I
def p_Md_weight (a1 : Int32) (a2 : Int32) (M : Mem) : Option (Int32 × Mem) :=
  nm (wF M 0 0 (0 : Int32)) fun m1 =>
  bnd (p_Md_isColumn a1 m1) fun q2 =>
  if q2 = 0 then
    some ((-1 : Int32), m1)
  else
    bnd (p_Md_in a2 (-20 : Int32) (20 : Int32) m1) fun q4 =>
    if q4 = 0 then
      some ((-2 : Int32), m1)
    else
      chk (inb a1 6) <|
      nm (wI m1 7 a1 a2) fun m7 =>
      some ((1 : Int32), m7)
-- ExactShares2Model.background()I
def p_Md_background_L28 (x1_28 : Int32) (M_28 : Mem) : Option ((Int32 × Mem) ⊕ (Int32 × Mem)) :=
  if (6 : Int32) ≤ x1_28 then
    some (.inr (x1_28, M_28))
  else
    chk (inb (((6 : Int32) * (M_28.1 0 13)) + x1_28) 36) <|
    nm (wI M_28 10 (((6 : Int32) * (M_28.1 0 13)) + x1_28) (0 : Int32)) fun m28_3 =>
    some (.inl ((x1_28 + (1 : Int32)), m28_3))
def p_Md_background  (M : Mem) : Option (Int32 × Mem) :=
  nm (wF M 0 0 (0 : Int32)) fun m1 =>
  if (m1.1 0 13) = (5 : Int32) then
    some ((-4 : Int32), m1)
  else
    nm (wF m1 0 13 ((m1.1 0 13) + (1 : Int32))) fun m3 =>
    bnd (itr zfu (fun s => p_Md_background_L28 s.1 s.2) ((0 : Int32), m3)) fun q4 =>
    some (((q4.2.1 0 13) - (1 : Int32)), q4.2)
-- ExactShares2Model.item(III)I
def p_Md_item (a1 : Int32) (a2 : Int32) (a3 : Int32) (M : Mem) : Option (Int32 × Mem) :=
  nm (wF M 0 0 (0 : Int32)) fun m1 =>
  bnd (p_Md_in a1 (-1 : Int32) ((m1.1 0 13) - (1 : Int32)) m1) fun q2 =>
  if q2 = 0 then
    some ((-1 : Int32), m1)
  else
    bnd (p_Md_isColumn a2 m1) fun q4 =>
    if q4 = 0 then
      some ((-1 : Int32), m1)
    else
      bnd (p_Md_in a3 (-100 : Int32) (100 : Int32) m1) fun q6 =>
      if q6 = 0 then
        some ((-2 : Int32), m1)
      else
        chk (inb (((6 : Int32) * (a1 + (1 : Int32))) + a2) 36) <|
        nm (wI m1 10 (((6 : Int32) * (a1 + (1 : Int32))) + a2) a3) fun m9 =>
        some ((1 : Int32), m9)
-- ExactShares2Model.group(II)I
def p_Md_group (a1 : Int32) (a2 : Int32) (M : Mem) : Option (Int32 × Mem) :=
  nm (wF M 0 0 (0 : Int32)) fun m1 =>
  bnd (p_Md_isColumn a1 m1) fun q2 =>
  if q2 = 0 then
    some ((-1 : Int32), m1)
  else
    bnd (p_Md_in a2 (0 : Int32) ((m1.1 0 1) - (1 : Int32)) m1) fun q4 =>
    if q4 = 0 then
      some ((-2 : Int32), m1)
    else
      chk (inb a1 6) <|
      chk (inb a1 6) <|
      nm (wI m1 8 a1 a2) fun m8 =>
      some ((m1.1 8 (Int32.toNatClampNeg a1)), m8)
-- ExactShares2Model.take(I)V
def p_Md_take_L2 (a1 : Int32) (x2_2 : Int32) (M_2 : Mem) : Option ((Int32 × Mem) ⊕ (Int32 × Mem)) :=
  if (M_2.1 0 1) ≤ x2_2 then
    some (.inr (x2_2, M_2))
  else
    chk (inb (((6 : Int32) * a1) + x2_2) 36) <|
    chk (inb x2_2 6) <|
    nm (wI M_2 11 x2_2 (M_2.1 10 (Int32.toNatClampNeg (((6 : Int32) * a1) + x2_2)))) fun m2_4 =>
    some (.inl ((x2_2 + (1 : Int32)), m2_4))
def p_Md_take (a1 : Int32) (M : Mem) : Option (Mem) :=
  bnd (itr zfu (fun s => p_Md_take_L2 a1 s.1 s.2) ((0 : Int32), M)) fun q1 =>
  some q1.2
-- ExactShares2Model.answerNow()J
def p_Md_answerNow_L20 (M : Mem) (x4_20 : Int32) : Option ((Int32) ⊕ (Int32)) :=
  chk (inb x4_20 30) <|
  if (M.1 1 (Int32.toNatClampNeg x4_20)) = 0 then
    chk (inb x4_20 30) <|
    chk (inb (M.1 3 (Int32.toNatClampNeg x4_20)) 6) <|
    chk (inb x4_20 30) <|
    if (M.1 2 (Int32.toNatClampNeg x4_20)) < (M.1 11 (Int32.toNatClampNeg (M.1 3 (Int32.toNatClampNeg x4_20)))) then
      chk (inb x4_20 30) <|
      some (.inl ((M.1 5 (Int32.toNatClampNeg x4_20))))
    else
      chk (inb x4_20 30) <|
      some (.inl ((M.1 4 (Int32.toNatClampNeg x4_20))))
  else
    some (.inr (x4_20))
def p_Md_answerNow_L4 (M : Mem) (x1_4 : Int64) (x3_4 : Int32) : Option ((Int64 × Int32) ⊕ (Int64 × Int32)) :=
  if (M.1 0 8) ≤ x3_4 then
    some (.inr (x1_4, x3_4))
  else
    chk (inb x3_4 4) <|
    bnd (itr zfu (fun s => p_Md_answerNow_L20 M s) ((M.1 6 (Int32.toNatClampNeg x3_4)))) fun q4_3 =>
    chk (inb q4_3 30) <|
    some (.inl ((x1_4 + (Int32.toInt64 (M.1 2 (Int32.toNatClampNeg q4_3)))), (x3_4 + (1 : Int32))))
def p_Md_answerNow_L93 (M : Mem) (x1_93 : Int64) (x3_93 : Int32) : Option ((Int64 × Int32) ⊕ (Int64 × Int32)) :=
  if (M.1 0 1) ≤ x3_93 then
    some (.inr (x1_93, x3_93))
  else
    chk (inb x3_93 6) <|
    chk (inb x3_93 6) <|
    some (.inl ((x1_93 + (Int32.toInt64 ((M.1 7 (Int32.toNatClampNeg x3_93)) * (M.1 11 (Int32.toNatClampNeg x3_93))))), (x3_93 + (1 : Int32))))
def p_Md_answerNow  (M : Mem) : Option (Int64) :=
  bnd (itr zfu (fun s => p_Md_answerNow_L4 M s.1 s.2) ((0 : Int64), (0 : Int32))) fun q1 =>
  bnd (itr zfu (fun s => p_Md_answerNow_L93 M s.1 s.2) (q1.1, (0 : Int32))) fun q2 =>
  some q2.1
-- ExactShares2Model.answer(I)J
def p_Md_answer (a1 : Int32) (M : Mem) : Option (Int64 × Mem) :=
  nm (wF M 0 0 (0 : Int32)) fun m1 =>
  bnd (p_Md_in a1 (-1 : Int32) ((m1.1 0 13) - (1 : Int32)) m1) fun q2 =>
  if q2 = 0 then
    some ((-1000000000000 : Int64), m1)
  else
    bnd (p_Md_take (a1 + (1 : Int32)) m1) fun q4 =>
    bnd (p_Md_answerNow  q4) fun q5 =>
    some (q5, q4)
-- ExactShares2Model.throwsNow()Z
def p_Md_throwsNow  (M : Mem) : Option (Int32 × Mem) :=
  if (M.1 0 13) = 0 then
    nm (wF M 0 0 (1 : Int32)) fun m4 =>
    if (m4.1 0 13) = 0 then
      some ((1 : Int32), m4)
    else
      some ((0 : Int32), m4)
  else
    nm (wF M 0 0 (0 : Int32)) fun m2 =>
    if (m2.1 0 13) = 0 then
      some ((1 : Int32), m2)
    else
      some ((0 : Int32), m2)
-- ExactShares2Model.sumAll()V
def p_Md_sumAll_L31 (x2_21 : Int32) (x1_2 : Int32) (x3_31 : Int32) (M_31 : Mem) : Option ((Int32 × Mem) ⊕ (Int32 × Mem)) :=
  if (M_31.1 0 1) ≤ x3_31 then
    some (.inr (x3_31, M_31))
  else
    if ((x1_2 >>> (x3_31 &&& 31)) &&& (1 : Int32)) = (1 : Int32) then
      chk (inb (((6 : Int32) * (0 : Int32)) + x3_31) 36) <|
      chk (inb x3_31 6) <|
      nm (wI M_31 11 x3_31 (M_31.1 10 (Int32.toNatClampNeg (((6 : Int32) * (0 : Int32)) + x3_31)))) fun m31_8 =>
      some (.inl ((x3_31 + (1 : Int32)), m31_8))
    else
      chk (inb (((6 : Int32) * x2_21) + x3_31) 36) <|
      chk (inb x3_31 6) <|
      nm (wI M_31 11 x3_31 (M_31.1 10 (Int32.toNatClampNeg (((6 : Int32) * x2_21) + x3_31)))) fun m31_5 =>
      some (.inl ((x3_31 + (1 : Int32)), m31_5))
def p_Md_sumAll_L21 (x1_2 : Int32) (x2_21 : Int32) (M_21 : Mem) : Option ((Int32 × Mem) ⊕ (Int32 × Mem)) :=
  if (M_21.1 0 13) < x2_21 then
    some (.inr (x2_21, M_21))
  else
    bnd (itr zfu (fun s => p_Md_sumAll_L31 x2_21 x1_2 s.1 s.2) ((0 : Int32), M_21)) fun q21_2 =>
    chk (inb x1_2 64) <|
    bnd (p_Md_answerNow  q21_2.2) fun q21_4 =>
    chk (inb x1_2 64) <|
    nm (wL q21_2.2 12 x1_2 ((q21_2.2.2 12 (Int32.toNatClampNeg x1_2)) + q21_4)) fun m21_6 =>
    some (.inl ((x2_21 + (1 : Int32)), m21_6))
def p_Md_sumAll_L2 (x1_2 : Int32) (M_2 : Mem) : Option ((Int32 × Mem) ⊕ (Int32 × Mem)) :=
  if ((1 : Int32) <<< ((M_2.1 0 1) &&& 31)) ≤ x1_2 then
    some (.inr (x1_2, M_2))
  else
    chk (inb x1_2 64) <|
    nm (wL M_2 12 x1_2 (0 : Int64)) fun m2_3 =>
    bnd (itr zfu (fun s => p_Md_sumAll_L21 x1_2 s.1 s.2) ((1 : Int32), m2_3)) fun q2_4 =>
    some (.inl ((x1_2 + (1 : Int32)), q2_4.2))
def p_Md_sumAll  (M : Mem) : Option (Mem) :=
  bnd (itr zfu (fun s => p_Md_sumAll_L2 s.1 s.2) ((0 : Int32), M)) fun q1 =>
  some q1.2
-- ExactShares2Model.part(JJI)J
def p_Md_part_L17 (x5_17 : Int64) (x7_17 : Int64) : Option ((Int64 × Int64) ⊕ (Int64 × Int64)) :=
  if (lg_cmp x7_17 (0 : Int64)) = 0 then
    some (.inr (x5_17, x7_17))
  else
    chk (decide (¬ x7_17 = 0)) <|
    some (.inl (x7_17, (x5_17 - x5_17 / x7_17 * x7_17)))
def p_Md_part (a0 : Int64) (a2 : Int64) (a4 : Int32) (M : Mem) : Option (Int64) :=
  if 0 ≤ (lg_cmp a0 (0 : Int64)) then
    bnd (itr zfu (fun s => p_Md_part_L17 s.1 s.2) (a0, a2)) fun q2 =>
    if a4 = 0 then
      chk (decide (¬ q2.1 = 0)) <|
      some (a0 / q2.1)
    else
      chk (decide (¬ q2.1 = 0)) <|
      some (a2 / q2.1)
  else
    bnd (itr zfu (fun s => p_Md_part_L17 s.1 s.2) ((-a0), a2)) fun q6 =>
    if a4 = 0 then
      chk (decide (¬ q6.1 = 0)) <|
      some (a0 / q6.1)
    else
      chk (decide (¬ q6.1 = 0)) <|
      some (a2 / q6.1)
-- ExactShares2Model.value(II)J
def p_Md_value (a1 : Int32) (a2 : Int32) (M : Mem) : Option (Int64 × Mem) :=
  nm (wF M 0 0 (0 : Int32)) fun m1 =>
  bnd (p_Md_in a1 (0 : Int32) (((1 : Int32) <<< ((m1.1 0 1) &&& 31)) - (1 : Int32)) m1) fun q2 =>
  if q2 = 0 then
    some ((-1000000000000 : Int64), m1)
  else
    bnd (p_Md_in a2 (0 : Int32) (1 : Int32) m1) fun q4 =>
    if q4 = 0 then
      some ((-1000000000000 : Int64), m1)
    else
      bnd (p_Md_throwsNow  m1) fun q6 =>
      if q6.1 = 0 then
        bnd (p_Md_sumAll  q6.2) fun q8 =>
        chk (inb a1 64) <|
        bnd (p_Md_part (q8.2 12 (Int32.toNatClampNeg a1)) (Int32.toInt64 (q8.1 0 13)) a2 q8) fun q10 =>
        some (q10, q8)
      else
        some ((0 : Int64), q6.2)
-- ExactShares2Model.groupBits(I)I
def p_Md_groupBits_L4 (a1 : Int32) (M : Mem) (x2_4 : Int32) (x3_4 : Int32) : Option ((Int32 × Int32) ⊕ (Int32 × Int32)) :=
  if (M.1 0 1) ≤ x3_4 then
    some (.inr (x2_4, x3_4))
  else
    chk (inb x3_4 6) <|
    if (M.1 8 (Int32.toNatClampNeg x3_4)) = a1 then
      some (.inl ((x2_4 ||| ((1 : Int32) <<< (x3_4 &&& 31))), (x3_4 + (1 : Int32))))
    else
      some (.inl ((x2_4 ||| (0 : Int32)), (x3_4 + (1 : Int32))))
def p_Md_groupBits (a1 : Int32) (M : Mem) : Option (Int32) :=
  bnd (itr zfu (fun s => p_Md_groupBits_L4 a1 M s.1 s.2) ((0 : Int32), (0 : Int32))) fun q1 =>
  some q1.1
-- ExactShares2Model.listParts(II)V
def p_Md_listParts_L25 (a1 : Int32) (a2 : Int32) (x3_25 : Int32) (M_25 : Mem) : Option ((Int32 × Mem) ⊕ (Int32 × Mem)) :=
  if (M_25.1 0 1) ≤ x3_25 then
    some (.inr (x3_25, M_25))
  else
    bnd (p_Md_groupBits x3_25 M_25) fun q25_2 =>
    if q25_2 = 0 then
      some (.inl ((x3_25 + (1 : Int32)), M_25))
    else
      if (q25_2 &&& (a1 ||| a2)) = 0 then
        chk (inb (M_25.1 0 17) 6) <|
        nm (wI M_25 13 (M_25.1 0 17) q25_2) fun m25_6 =>
        nm (wF m25_6 0 17 ((m25_6.1 0 17) + (1 : Int32))) fun m25_7 =>
        some (.inl ((x3_25 + (1 : Int32)), m25_7))
      else
        some (.inl ((x3_25 + (1 : Int32)), M_25))
def p_Md_listParts (a1 : Int32) (a2 : Int32) (M : Mem) : Option (Mem) :=
  nm (wF M 0 17 (0 : Int32)) fun m1 =>
  if a1 = 0 then
    bnd (itr zfu (fun s => p_Md_listParts_L25 a1 a2 s.1 s.2) ((0 : Int32), m1)) fun q3 =>
    some q3.2
  else
    chk (inb (0 : Int32) 6) <|
    nm (wI m1 13 (0 : Int32) (a1 ||| a2)) fun m5 =>
    nm (wF m5 0 17 (1 : Int32)) fun m6 =>
    bnd (itr zfu (fun s => p_Md_listParts_L25 a1 a2 s.1 s.2) ((0 : Int32), m6)) fun q7 =>
    some q7.2
-- ExactShares2Model.orders()I
def p_Md_orders_L4 (M : Mem) (x1_4 : Int32) (x2_4 : Int32) : Option ((Int32 × Int32) ⊕ (Int32 × Int32)) :=
  if (M.1 0 17) < x2_4 then
    some (.inr (x1_4, x2_4))
  else
    some (.inl ((x1_4 * x2_4), (x2_4 + (1 : Int32))))
def p_Md_orders  (M : Mem) : Option (Int32) :=
  bnd (itr zfu (fun s => p_Md_orders_L4 M s.1 s.2) ((1 : Int32), (2 : Int32))) fun q1 =>
  some q1.1
-- ExactShares2Model.layOrder(I)V
def p_Md_layOrder_L40 (x3_7 : Int32) (x5_40 : Int32) (x6_40 : Int32) : Option ((Int32 × Int32) ⊕ (Int32 × Int32)) :=
  if ((x3_7 >>> (x6_40 &&& 31)) &&& (1 : Int32)) = (1 : Int32) then
    if ((x3_7 >>> (x6_40 &&& 31)) &&& (1 : Int32)) = (1 : Int32) then
      some (.inl ((x5_40 - (0 : Int32)), (x6_40 + (1 : Int32))))
    else
      some (.inl ((x5_40 - (1 : Int32)), (x6_40 + (1 : Int32))))
  else
    if x5_40 ≤ 0 then
      some (.inr (x5_40, x6_40))
    else
      if ((x3_7 >>> (x6_40 &&& 31)) &&& (1 : Int32)) = (1 : Int32) then
        some (.inl ((x5_40 - (0 : Int32)), (x6_40 + (1 : Int32))))
      else
        some (.inl ((x5_40 - (1 : Int32)), (x6_40 + (1 : Int32))))
def p_Md_layOrder_L7 (x2_7 : Int32) (x3_7 : Int32) (x4_7 : Int32) (M_7 : Mem) : Option ((Int32 × Int32 × Int32 × Mem) ⊕ (Int32 × Int32 × Int32 × Mem)) :=
  if (M_7.1 0 17) ≤ x4_7 then
    some (.inr (x2_7, x3_7, x4_7, M_7))
  else
    chk (decide (¬ ((M_7.1 0 17) - x4_7) = 0)) <|
    chk (decide (¬ ((M_7.1 0 17) - x4_7) = 0)) <|
    bnd (itr zfu (fun s => p_Md_layOrder_L40 x3_7 s.1 s.2) ((x2_7 - x2_7 / ((M_7.1 0 17) - x4_7) * ((M_7.1 0 17) - x4_7)), (0 : Int32))) fun q7_4 =>
    chk (inb x4_7 6) <|
    nm (wI M_7 14 x4_7 q7_4.2) fun m7_6 =>
    some (.inl ((x2_7 / ((M_7.1 0 17) - x4_7)), (x3_7 ||| ((1 : Int32) <<< (q7_4.2 &&& 31))), (x4_7 + (1 : Int32)), m7_6))
def p_Md_layOrder (a1 : Int32) (M : Mem) : Option (Mem) :=
  bnd (itr zfu (fun s => p_Md_layOrder_L7 s.1 s.2.1 s.2.2.1 s.2.2.2) (a1, (0 : Int32), (0 : Int32), M)) fun q1 =>
  some q1.2.2.2
-- ExactShares2Model.before(I)I
def p_Md_before_L4 (a1 : Int32) (M : Mem) (x2_4 : Int32) (x3_4 : Int32) : Option ((Int32 × Int32) ⊕ (Int32 × Int32)) :=
  chk (inb x3_4 6) <|
  chk (inb (M.1 14 (Int32.toNatClampNeg x3_4)) 6) <|
  if (M.1 13 (Int32.toNatClampNeg (M.1 14 (Int32.toNatClampNeg x3_4)))) = a1 then
    some (.inr (x2_4, x3_4))
  else
    chk (inb x3_4 6) <|
    chk (inb (M.1 14 (Int32.toNatClampNeg x3_4)) 6) <|
    some (.inl ((x2_4 ||| (M.1 13 (Int32.toNatClampNeg (M.1 14 (Int32.toNatClampNeg x3_4))))), (x3_4 + (1 : Int32))))
def p_Md_before (a1 : Int32) (M : Mem) : Option (Int32) :=
  bnd (itr zfu (fun s => p_Md_before_L4 a1 M s.1 s.2) ((0 : Int32), (0 : Int32))) fun q1 =>
  some q1.1
-- ExactShares2Model.shareSum(I)J
def p_Md_shareSum_L11 (a1 : Int32) (x2_11 : Int64) (x4_11 : Int32) (M_11 : Mem) : Option ((Int64 × Int32 × Mem) ⊕ (Int64 × Int32 × Mem)) :=
  bnd (p_Md_orders  M_11) fun q11_1 =>
  if q11_1 ≤ x4_11 then
    some (.inr (x2_11, x4_11, M_11))
  else
    bnd (p_Md_layOrder x4_11 M_11) fun q11_3 =>
    bnd (p_Md_before a1 q11_3) fun q11_4 =>
    chk (inb (q11_4 ||| a1) 64) <|
    chk (inb q11_4 64) <|
    some (.inl ((x2_11 + ((q11_3.2 12 (Int32.toNatClampNeg (q11_4 ||| a1))) - (q11_3.2 12 (Int32.toNatClampNeg q11_4)))), (x4_11 + (1 : Int32)), q11_3))
def p_Md_shareSum (a1 : Int32) (M : Mem) : Option (Int64 × Mem) :=
  bnd (p_Md_listParts (0 : Int32) (0 : Int32) M) fun q1 =>
  bnd (itr zfu (fun s => p_Md_shareSum_L11 a1 s.1 s.2.1 s.2.2) ((0 : Int64), (0 : Int32), q1)) fun q2 =>
  some (q2.1, q2.2.2)
-- ExactShares2Model.setSum(I)J
def p_Md_setSum_L28 (q1 : (Mem)) (x4_11 : Int32) (x5_28 : Int32) (x6_28 : Int32) : Option ((Int32 × Int32) ⊕ (Int32 × Int32)) :=
  if (q1.1 0 17) ≤ x6_28 then
    some (.inr (x5_28, x6_28))
  else
    if ((x4_11 >>> (x6_28 &&& 31)) &&& (1 : Int32)) = (1 : Int32) then
      chk (inb x6_28 6) <|
      some (.inl ((x5_28 ||| (q1.1 13 (Int32.toNatClampNeg x6_28))), (x6_28 + (1 : Int32))))
    else
      some (.inl ((x5_28 ||| (0 : Int32)), (x6_28 + (1 : Int32))))
def p_Md_setSum_L11 (a1 : Int32) (q1 : (Mem)) (x2_11 : Int64) (x4_11 : Int32) : Option ((Int64 × Int32) ⊕ (Int64 × Int32)) :=
  if ((1 : Int32) <<< ((q1.1 0 17) &&& 31)) ≤ x4_11 then
    some (.inr (x2_11, x4_11))
  else
    bnd (itr zfu (fun s => p_Md_setSum_L28 q1 x4_11 s.1 s.2) ((0 : Int32), (0 : Int32))) fun q11_2 =>
    if (q11_2.1 &&& a1) = 0 then
      chk (inb (q11_2.1 ||| a1) 64) <|
      chk (inb q11_2.1 64) <|
      some (.inl ((x2_11 + ((q1.2 12 (Int32.toNatClampNeg (q11_2.1 ||| a1))) - (q1.2 12 (Int32.toNatClampNeg q11_2.1)))), (x4_11 + (1 : Int32))))
    else
      some (.inl ((x2_11 + (0 : Int64)), (x4_11 + (1 : Int32))))
def p_Md_setSum (a1 : Int32) (M : Mem) : Option (Int64 × Mem) :=
  bnd (p_Md_listParts (0 : Int32) (0 : Int32) M) fun q1 =>
  bnd (itr zfu (fun s => p_Md_setSum_L11 a1 q1 s.1 s.2) ((0 : Int64), (0 : Int32))) fun q2 =>
  some (q2.1, q1)
-- ExactShares2Model.share(III)J
def p_Md_share (a1 : Int32) (a2 : Int32) (a3 : Int32) (M : Mem) : Option (Int64 × Mem) :=
  nm (wF M 0 0 (0 : Int32)) fun m1 =>
  bnd (p_Md_isColumn a1 m1) fun q2 =>
  if q2 = 0 then
    some ((-1000000000000 : Int64), m1)
  else
    bnd (p_Md_in a2 (0 : Int32) (1 : Int32) m1) fun q4 =>
    if q4 = 0 then
      some ((-1000000000000 : Int64), m1)
    else
      bnd (p_Md_in a3 (0 : Int32) (1 : Int32) m1) fun q6 =>
      if q6 = 0 then
        some ((-1000000000000 : Int64), m1)
      else
        bnd (p_Md_throwsNow  m1) fun q8 =>
        if q8.1 = 0 then
          bnd (p_Md_sumAll  q8.2) fun q10 =>
          chk (inb a1 6) <|
          bnd (p_Md_groupBits (q10.1 8 (Int32.toNatClampNeg a1)) q10) fun q12 =>
          if a2 = 0 then
            bnd (p_Md_shareSum q12 q10) fun q23 =>
            if a2 = 0 then
              bnd (p_Md_orders  q23.2) fun q27 =>
              bnd (p_Md_part q23.1 ((Int32.toInt64 (q23.2.1 0 13)) * (Int32.toInt64 q27)) a3 q23.2) fun q28 =>
              some (q28, q23.2)
            else
              bnd (p_Md_part q23.1 ((Int32.toInt64 (q23.2.1 0 13)) * (Int32.toInt64 ((1 : Int32) <<< (((q23.2.1 0 17) - (1 : Int32)) &&& 31)))) a3 q23.2) fun q25 =>
              some (q25, q23.2)
          else
            bnd (p_Md_setSum q12 q10) fun q14 =>
            if a2 = 0 then
              bnd (p_Md_orders  q14.2) fun q18 =>
              bnd (p_Md_part q14.1 ((Int32.toInt64 (q14.2.1 0 13)) * (Int32.toInt64 q18)) a3 q14.2) fun q19 =>
              some (q19, q14.2)
            else
              bnd (p_Md_part q14.1 ((Int32.toInt64 (q14.2.1 0 13)) * (Int32.toInt64 ((1 : Int32) <<< (((q14.2.1 0 17) - (1 : Int32)) &&& 31)))) a3 q14.2) fun q16 =>
              some (q16, q14.2)
        else
          some ((0 : Int64), q8.2)
-- ExactShares2Model.both(III)J
def p_Md_both_L100 (q15 : (Int32)) (q17 : (Int32)) (x6_100 : Int64) (x8_100 : Int32) (M_100 : Mem) : Option ((Int64 × Int32 × Mem) ⊕ (Int64 × Int32 × Mem)) :=
  bnd (p_Md_orders  M_100) fun q100_1 =>
  if q100_1 ≤ x8_100 then
    some (.inr (x6_100, x8_100, M_100))
  else
    bnd (p_Md_layOrder x8_100 M_100) fun q100_3 =>
    bnd (p_Md_before (q15 ||| q17) q100_3) fun q100_4 =>
    chk (inb ((q100_4 ||| q15) ||| q17) 64) <|
    chk (inb (q100_4 ||| q15) 64) <|
    chk (inb (q100_4 ||| q17) 64) <|
    chk (inb q100_4 64) <|
    some (.inl ((x6_100 + ((((q100_3.2 12 (Int32.toNatClampNeg ((q100_4 ||| q15) ||| q17))) - (q100_3.2 12 (Int32.toNatClampNeg (q100_4 ||| q15)))) - (q100_3.2 12 (Int32.toNatClampNeg (q100_4 ||| q17)))) + (q100_3.2 12 (Int32.toNatClampNeg q100_4)))), (x8_100 + (1 : Int32)), q100_3))
def p_Md_both (a1 : Int32) (a2 : Int32) (a3 : Int32) (M : Mem) : Option (Int64 × Mem) :=
  nm (wF M 0 0 (0 : Int32)) fun m1 =>
  bnd (p_Md_isColumn a1 m1) fun q2 =>
  if q2 = 0 then
    some ((-1000000000000 : Int64), m1)
  else
    bnd (p_Md_isColumn a2 m1) fun q4 =>
    if q4 = 0 then
      some ((-1000000000000 : Int64), m1)
    else
      bnd (p_Md_in a3 (0 : Int32) (1 : Int32) m1) fun q6 =>
      if q6 = 0 then
        some ((-1000000000000 : Int64), m1)
      else
        chk (inb a1 6) <|
        chk (inb a2 6) <|
        if (m1.1 8 (Int32.toNatClampNeg a1)) = (m1.1 8 (Int32.toNatClampNeg a2)) then
          some ((-1000000000000 : Int64), m1)
        else
          bnd (p_Md_throwsNow  m1) fun q11 =>
          if q11.1 = 0 then
            bnd (p_Md_sumAll  q11.2) fun q13 =>
            chk (inb a1 6) <|
            bnd (p_Md_groupBits (q13.1 8 (Int32.toNatClampNeg a1)) q13) fun q15 =>
            chk (inb a2 6) <|
            bnd (p_Md_groupBits (q13.1 8 (Int32.toNatClampNeg a2)) q13) fun q17 =>
            bnd (p_Md_listParts q15 q17 q13) fun q18 =>
            bnd (itr zfu (fun s => p_Md_both_L100 q15 q17 s.1 s.2.1 s.2.2) ((0 : Int64), (0 : Int32), q18)) fun q19 =>
            bnd (p_Md_orders  q19.2.2) fun q20 =>
            bnd (p_Md_part q19.1 ((Int32.toInt64 (q19.2.2.1 0 13)) * (Int32.toInt64 q20)) a3 q19.2.2) fun q21 =>
            some (q21, q19.2.2)
          else
            some ((0 : Int64), q11.2)
-- ExactShares2Model.drawn(IIII)J
def p_Md_drawn_L86 (x10_86 : Int32) (M_86 : Mem) : Option ((Int32 × Mem) ⊕ (Int32 × Mem)) :=
  if (M_86.1 0 17) ≤ x10_86 then
    some (.inr (x10_86, M_86))
  else
    chk (inb x10_86 6) <|
    nm (wI M_86 14 x10_86 x10_86) fun m86_3 =>
    some (.inl ((x10_86 + (1 : Int32)), m86_3))
def p_Md_drawn_L118 (x6_118 : Int32) (x10_118 : Int32) (M_118 : Mem) : Option ((Int32 × Int32 × Mem) ⊕ (Int32 × Int32 × Mem)) :=
  if x10_118 ≤ 0 then
    some (.inr (x6_118, x10_118, M_118))
  else
    chk (decide (¬ (x10_118 + (1 : Int32)) = 0)) <|
    chk (inb x10_118 6) <|
    chk (inb ((zush ((x6_118 * (1103515245 : Int32)) + (12345 : Int32)) (16 : Int32)) - (zush ((x6_118 * (1103515245 : Int32)) + (12345 : Int32)) (16 : Int32)) / (x10_118 + (1 : Int32)) * (x10_118 + (1 : Int32))) 6) <|
    chk (inb x10_118 6) <|
    nm (wI M_118 14 x10_118 (M_118.1 14 (Int32.toNatClampNeg ((zush ((x6_118 * (1103515245 : Int32)) + (12345 : Int32)) (16 : Int32)) - (zush ((x6_118 * (1103515245 : Int32)) + (12345 : Int32)) (16 : Int32)) / (x10_118 + (1 : Int32)) * (x10_118 + (1 : Int32)))))) fun m118_6 =>
    chk (inb ((zush ((x6_118 * (1103515245 : Int32)) + (12345 : Int32)) (16 : Int32)) - (zush ((x6_118 * (1103515245 : Int32)) + (12345 : Int32)) (16 : Int32)) / (x10_118 + (1 : Int32)) * (x10_118 + (1 : Int32))) 6) <|
    nm (wI m118_6 14 ((zush ((x6_118 * (1103515245 : Int32)) + (12345 : Int32)) (16 : Int32)) - (zush ((x6_118 * (1103515245 : Int32)) + (12345 : Int32)) (16 : Int32)) / (x10_118 + (1 : Int32)) * (x10_118 + (1 : Int32))) (M_118.1 14 (Int32.toNatClampNeg x10_118))) fun m118_8 =>
    some (.inl (((x6_118 * (1103515245 : Int32)) + (12345 : Int32)), (x10_118 + (-1 : Int32)), m118_8))
def p_Md_drawn_L77 (a3 : Int32) (q12 : (Int32)) (x6_77 : Int32) (x7_77 : Int64) (x9_77 : Int32) (M_77 : Mem) : Option ((Int32 × Int64 × Int32 × Mem) ⊕ (Int32 × Int64 × Int32 × Mem)) :=
  if a3 ≤ x9_77 then
    some (.inr (x6_77, x7_77, x9_77, M_77))
  else
    bnd (itr zfu (fun s => p_Md_drawn_L86 s.1 s.2) ((0 : Int32), M_77)) fun q77_2 =>
    bnd (itr zfu (fun s => p_Md_drawn_L118 s.1 s.2.1 s.2.2) (x6_77, ((q77_2.2.1 0 17) - (1 : Int32)), q77_2.2)) fun q77_3 =>
    bnd (p_Md_before q12 q77_3.2.2) fun q77_4 =>
    chk (inb (q77_4 ||| q12) 64) <|
    chk (inb q77_4 64) <|
    some (.inl (q77_3.1, (x7_77 + ((q77_3.2.2.2 12 (Int32.toNatClampNeg (q77_4 ||| q12))) - (q77_3.2.2.2 12 (Int32.toNatClampNeg q77_4)))), (x9_77 + (1 : Int32)), q77_3.2.2))
def p_Md_drawn (a1 : Int32) (a2 : Int32) (a3 : Int32) (a4 : Int32) (M : Mem) : Option (Int64 × Mem) :=
  nm (wF M 0 0 (0 : Int32)) fun m1 =>
  bnd (p_Md_isColumn a1 m1) fun q2 =>
  if q2 = 0 then
    some ((-1000000000000 : Int64), m1)
  else
    bnd (p_Md_in a3 (1 : Int32) (20 : Int32) m1) fun q4 =>
    if q4 = 0 then
      some ((-1000000000000 : Int64), m1)
    else
      bnd (p_Md_in a4 (0 : Int32) (1 : Int32) m1) fun q6 =>
      if q6 = 0 then
        some ((-1000000000000 : Int64), m1)
      else
        bnd (p_Md_throwsNow  m1) fun q8 =>
        if q8.1 = 0 then
          bnd (p_Md_sumAll  q8.2) fun q10 =>
          chk (inb a1 6) <|
          bnd (p_Md_groupBits (q10.1 8 (Int32.toNatClampNeg a1)) q10) fun q12 =>
          bnd (p_Md_listParts (0 : Int32) (0 : Int32) q10) fun q13 =>
          bnd (itr zfu (fun s => p_Md_drawn_L77 a3 q12 s.1 s.2.1 s.2.2.1 s.2.2.2) (a2, (0 : Int64), (0 : Int32), q13)) fun q14 =>
          bnd (p_Md_part q14.2.1 ((Int32.toInt64 (q14.2.2.2.1 0 13)) * (Int32.toInt64 a3)) a4 q14.2.2.2) fun q15 =>
          some (q15, q14.2.2.2)
        else
          some ((0 : Int64), q8.2)
-- ExactShares2Model.partial(III)J
def p_Md_partial_L52 (a1 : Int32) (a2 : Int32) (x4_52 : Int64) (x6_52 : Int32) (M_52 : Mem) : Option ((Int64 × Int32 × Mem) ⊕ (Int64 × Int32 × Mem)) :=
  if (M_52.1 0 13) < x6_52 then
    some (.inr (x4_52, x6_52, M_52))
  else
    bnd (p_Md_take x6_52 M_52) fun q52_2 =>
    chk (inb a1 6) <|
    nm (wI q52_2 11 a1 a2) fun m52_4 =>
    bnd (p_Md_answerNow  m52_4) fun q52_5 =>
    some (.inl ((x4_52 + q52_5), (x6_52 + (1 : Int32)), m52_4))
def p_Md_partial (a1 : Int32) (a2 : Int32) (a3 : Int32) (M : Mem) : Option (Int64 × Mem) :=
  nm (wF M 0 0 (0 : Int32)) fun m1 =>
  bnd (p_Md_isColumn a1 m1) fun q2 =>
  if q2 = 0 then
    some ((-1000000000000 : Int64), m1)
  else
    bnd (p_Md_in a2 (-100 : Int32) (100 : Int32) m1) fun q4 =>
    if q4 = 0 then
      some ((-1000000000000 : Int64), m1)
    else
      bnd (p_Md_in a3 (0 : Int32) (1 : Int32) m1) fun q6 =>
      if q6 = 0 then
        some ((-1000000000000 : Int64), m1)
      else
        bnd (p_Md_throwsNow  m1) fun q8 =>
        if q8.1 = 0 then
          bnd (itr zfu (fun s => p_Md_partial_L52 a1 a2 s.1 s.2.1 s.2.2) ((0 : Int64), (1 : Int32), q8.2)) fun q10 =>
          bnd (p_Md_part q10.1 (Int32.toInt64 (q10.2.2.1 0 13)) a3 q10.2.2) fun q11 =>
          some (q11, q10.2.2)
        else
          some ((0 : Int64), q8.2)
-- ExactShares2Model.worth(II)J
def p_Md_worth_L64 (a1 : Int32) (q40_3 : (Int64)) (x3_64 : Int64) (x8_64 : Int32) (M_64 : Mem) : Option ((Int64 × Int32 × Mem) ⊕ (Int64 × Int32 × Mem)) :=
  if (M_64.1 0 13) < x8_64 then
    some (.inr (x3_64, x8_64, M_64))
  else
    chk (inb (((6 : Int32) * x8_64) + a1) 36) <|
    chk (inb a1 6) <|
    nm (wI M_64 11 a1 (M_64.1 10 (Int32.toNatClampNeg (((6 : Int32) * x8_64) + a1)))) fun m64_4 =>
    bnd (p_Md_answerNow  m64_4) fun q64_5 =>
    some (.inl ((x3_64 + ((q64_5 - q40_3) * (q64_5 - q40_3))), (x8_64 + (1 : Int32)), m64_4))
def p_Md_worth_L40 (a1 : Int32) (x3_40 : Int64) (x5_40 : Int32) (M_40 : Mem) : Option ((Int64 × Int32 × Mem) ⊕ (Int64 × Int32 × Mem)) :=
  if (M_40.1 0 13) < x5_40 then
    some (.inr (x3_40, x5_40, M_40))
  else
    bnd (p_Md_take x5_40 M_40) fun q40_2 =>
    bnd (p_Md_answerNow  q40_2) fun q40_3 =>
    bnd (itr zfu (fun s => p_Md_worth_L64 a1 q40_3 s.1 s.2.1 s.2.2) (x3_40, (1 : Int32), q40_2)) fun q40_4 =>
    some (.inl (q40_4.1, (x5_40 + (1 : Int32)), q40_4.2.2))
def p_Md_worth (a1 : Int32) (a2 : Int32) (M : Mem) : Option (Int64 × Mem) :=
  nm (wF M 0 0 (0 : Int32)) fun m1 =>
  bnd (p_Md_isColumn a1 m1) fun q2 =>
  if q2 = 0 then
    some ((-1000000000000 : Int64), m1)
  else
    bnd (p_Md_in a2 (0 : Int32) (1 : Int32) m1) fun q4 =>
    if q4 = 0 then
      some ((-1000000000000 : Int64), m1)
    else
      bnd (p_Md_throwsNow  m1) fun q6 =>
      if q6.1 = 0 then
        bnd (itr zfu (fun s => p_Md_worth_L40 a1 s.1 s.2.1 s.2.2) ((0 : Int64), (1 : Int32), q6.2)) fun q8 =>
        bnd (p_Md_part q8.1 ((Int32.toInt64 (q8.2.2.1 0 13)) * (Int32.toInt64 (q8.2.2.1 0 13))) a2 q8.2.2) fun q9 =>
        some (q9, q8.2.2)
      else
        some ((0 : Int64), q6.2)
-- ExactShares2Model.findSizes()V
def p_Md_findSizes_L2 (x1_2 : Int32) (M_2 : Mem) : Option ((Int32 × Mem) ⊕ (Int32 × Mem)) :=
  if (M_2.1 0 1) ≤ x1_2 then
    some (.inr (x1_2, M_2))
  else
    bnd (p_Md_groupBits x1_2 M_2) fun q2_2 =>
    if q2_2 = 0 then
      if 0 ≤ (lg_cmp (0 : Int64) (0 : Int64)) then
        chk (inb x1_2 6) <|
        nm (wL M_2 15 x1_2 (0 : Int64)) fun m2_15 =>
        some (.inl ((x1_2 + (1 : Int32)), m2_15))
      else
        chk (inb x1_2 6) <|
        nm (wL M_2 15 x1_2 (-(0 : Int64))) fun m2_17 =>
        some (.inl ((x1_2 + (1 : Int32)), m2_17))
    else
      bnd (p_Md_groupBits x1_2 M_2) fun q2_4 =>
      bnd (p_Md_shareSum q2_4 M_2) fun q2_5 =>
      if 0 ≤ (lg_cmp q2_5.1 (0 : Int64)) then
        chk (inb x1_2 6) <|
        nm (wL q2_5.2 15 x1_2 q2_5.1) fun m2_8 =>
        some (.inl ((x1_2 + (1 : Int32)), m2_8))
      else
        chk (inb x1_2 6) <|
        nm (wL q2_5.2 15 x1_2 (-q2_5.1)) fun m2_10 =>
        some (.inl ((x1_2 + (1 : Int32)), m2_10))
def p_Md_findSizes  (M : Mem) : Option (Mem) :=
  bnd (itr zfu (fun s => p_Md_findSizes_L2 s.1 s.2) ((0 : Int32), M)) fun q1 =>
  some q1.2
-- ExactShares2Model.rank(I)I
def p_Md_rank_L63 (q7 : (Mem)) (x3_49 : Int32) (x4_63 : Int32) (x5_63 : Int32) : Option ((Int32 × Int32) ⊕ (Int32 × Int32)) :=
  if (q7.1 0 1) ≤ x5_63 then
    some (.inr (x4_63, x5_63))
  else
    bnd (p_Md_groupBits x3_49 q7) fun q63_2 =>
    if q63_2 = 0 then
      some (.inr (x4_63, x5_63))
    else
      if x5_63 = x3_49 then
        some (.inl ((x4_63 + (0 : Int32)), (x5_63 + (1 : Int32))))
      else
        bnd (p_Md_groupBits x5_63 q7) fun q63_6 =>
        if q63_6 = 0 then
          some (.inl ((x4_63 + (0 : Int32)), (x5_63 + (1 : Int32))))
        else
          chk (inb x5_63 6) <|
          chk (inb x3_49 6) <|
          if 0 < (lg_cmp (q7.2 15 (Int32.toNatClampNeg x5_63)) (q7.2 15 (Int32.toNatClampNeg x3_49))) then
            some (.inl ((x4_63 + (1 : Int32)), (x5_63 + (1 : Int32))))
          else
            chk (inb x5_63 6) <|
            chk (inb x3_49 6) <|
            if (lg_cmp (q7.2 15 (Int32.toNatClampNeg x5_63)) (q7.2 15 (Int32.toNatClampNeg x3_49))) = 0 then
              if x3_49 ≤ x5_63 then
                some (.inl ((x4_63 + (0 : Int32)), (x5_63 + (1 : Int32))))
              else
                some (.inl ((x4_63 + (1 : Int32)), (x5_63 + (1 : Int32))))
            else
              some (.inl ((x4_63 + (0 : Int32)), (x5_63 + (1 : Int32))))
def p_Md_rank_L49 (a1 : Int32) (q7 : (Mem)) (x2_49 : Int32) (x3_49 : Int32) : Option ((Int32 × Int32) ⊕ (Int32 × Int32)) :=
  if (q7.1 0 1) ≤ x3_49 then
    some (.inr (x2_49, x3_49))
  else
    bnd (itr zfu (fun s => p_Md_rank_L63 q7 x3_49 s.1 s.2) ((0 : Int32), (0 : Int32))) fun q49_2 =>
    bnd (p_Md_groupBits x3_49 q7) fun q49_3 =>
    if q49_3 = 0 then
      some (.inl (x2_49, (x3_49 + (1 : Int32))))
    else
      if q49_2.1 = a1 then
        some (.inl (x3_49, (x3_49 + (1 : Int32))))
      else
        some (.inl (x2_49, (x3_49 + (1 : Int32))))
def p_Md_rank (a1 : Int32) (M : Mem) : Option (Int32 × Mem) :=
  nm (wF M 0 0 (0 : Int32)) fun m1 =>
  bnd (p_Md_listParts (0 : Int32) (0 : Int32) m1) fun q2 =>
  bnd (p_Md_in a1 (0 : Int32) ((q2.1 0 17) - (1 : Int32)) q2) fun q3 =>
  if q3 = 0 then
    some ((-1 : Int32), q2)
  else
    if (q2.1 0 13) = 0 then
      some ((-3 : Int32), q2)
    else
      bnd (p_Md_sumAll  q2) fun q6 =>
      bnd (p_Md_findSizes  q6) fun q7 =>
      bnd (itr zfu (fun s => p_Md_rank_L49 a1 q7 s.1 s.2) ((-1 : Int32), (0 : Int32))) fun q8 =>
      some (q8.1, q7)
-- ExactShares2Model.bar(IZ)I
def p_Md_bar (a1 : Int32) (a2 : Int32) (M : Mem) : Option (Int32 × Mem) :=
  nm (wF M 0 0 (0 : Int32)) fun m1 =>
  bnd (p_Md_isColumn a1 m1) fun q2 =>
  if q2 = 0 then
    some ((-1 : Int32), m1)
  else
    chk (inb a1 6) <|
    if (m1.1 9 (Int32.toNatClampNeg a1)) = 0 then
      chk (inb a1 6) <|
      nm (wI m1 9 a1 (vp_nar .boolean a2)) fun m7 =>
      some ((0 : Int32), m7)
    else
      chk (inb a1 6) <|
      nm (wI m1 9 a1 (vp_nar .boolean a2)) fun m9 =>
      some ((1 : Int32), m9)
-- ExactShares2Model.hold(Z)V
def p_Md_hold_L10 (M : Mem) (x2_10 : Int32) (x3_10 : Int32) (x4_10 : Int32) (x5_10 : Int32) : Option ((Int32 × Int32 × Int32 × Int32) ⊕ (Int32 × Int32 × Int32 × Int32)) :=
  if (M.1 0 1) ≤ x5_10 then
    some (.inr (x2_10, x3_10, x4_10, x5_10))
  else
    chk (inb x5_10 6) <|
    chk (inb x5_10 36) <|
    if ((M.1 11 (Int32.toNatClampNeg x5_10)) - (M.1 10 (Int32.toNatClampNeg x5_10))) = 0 then
      if 0 ≤ ((M.1 11 (Int32.toNatClampNeg x5_10)) - (M.1 10 (Int32.toNatClampNeg x5_10))) then
        if x4_10 = 0 then
          chk (inb x5_10 6) <|
          chk (inb x5_10 6) <|
          some (.inl ((x2_10 + (0 : Int32)), (x3_10 + ((M.1 11 (Int32.toNatClampNeg x5_10)) - (M.1 10 (Int32.toNatClampNeg x5_10)))), ((M.1 11 (Int32.toNatClampNeg x5_10)) - (M.1 17 (Int32.toNatClampNeg x5_10))), (x5_10 + (1 : Int32))))
        else
          some (.inl ((x2_10 + (0 : Int32)), (x3_10 + ((M.1 11 (Int32.toNatClampNeg x5_10)) - (M.1 10 (Int32.toNatClampNeg x5_10)))), x4_10, (x5_10 + (1 : Int32))))
      else
        if x4_10 = 0 then
          chk (inb x5_10 6) <|
          chk (inb x5_10 6) <|
          some (.inl ((x2_10 + (0 : Int32)), (x3_10 + (-((M.1 11 (Int32.toNatClampNeg x5_10)) - (M.1 10 (Int32.toNatClampNeg x5_10))))), ((M.1 11 (Int32.toNatClampNeg x5_10)) - (M.1 17 (Int32.toNatClampNeg x5_10))), (x5_10 + (1 : Int32))))
        else
          some (.inl ((x2_10 + (0 : Int32)), (x3_10 + (-((M.1 11 (Int32.toNatClampNeg x5_10)) - (M.1 10 (Int32.toNatClampNeg x5_10))))), x4_10, (x5_10 + (1 : Int32))))
    else
      if 0 ≤ ((M.1 11 (Int32.toNatClampNeg x5_10)) - (M.1 10 (Int32.toNatClampNeg x5_10))) then
        if x4_10 = 0 then
          chk (inb x5_10 6) <|
          chk (inb x5_10 6) <|
          some (.inl ((x2_10 + (1 : Int32)), (x3_10 + ((M.1 11 (Int32.toNatClampNeg x5_10)) - (M.1 10 (Int32.toNatClampNeg x5_10)))), ((M.1 11 (Int32.toNatClampNeg x5_10)) - (M.1 17 (Int32.toNatClampNeg x5_10))), (x5_10 + (1 : Int32))))
        else
          some (.inl ((x2_10 + (1 : Int32)), (x3_10 + ((M.1 11 (Int32.toNatClampNeg x5_10)) - (M.1 10 (Int32.toNatClampNeg x5_10)))), x4_10, (x5_10 + (1 : Int32))))
      else
        if x4_10 = 0 then
          chk (inb x5_10 6) <|
          chk (inb x5_10 6) <|
          some (.inl ((x2_10 + (1 : Int32)), (x3_10 + (-((M.1 11 (Int32.toNatClampNeg x5_10)) - (M.1 10 (Int32.toNatClampNeg x5_10))))), ((M.1 11 (Int32.toNatClampNeg x5_10)) - (M.1 17 (Int32.toNatClampNeg x5_10))), (x5_10 + (1 : Int32))))
        else
          some (.inl ((x2_10 + (1 : Int32)), (x3_10 + (-((M.1 11 (Int32.toNatClampNeg x5_10)) - (M.1 10 (Int32.toNatClampNeg x5_10))))), x4_10, (x5_10 + (1 : Int32))))
def p_Md_hold_L152 (x5_152 : Int32) (M_152 : Mem) : Option ((Int32 × Mem) ⊕ (Int32 × Mem)) :=
  if (M_152.1 0 1) ≤ x5_152 then
    some (.inr (x5_152, M_152))
  else
    chk (inb x5_152 6) <|
    chk (inb x5_152 6) <|
    nm (wI M_152 17 x5_152 (M_152.1 11 (Int32.toNatClampNeg x5_152))) fun m152_4 =>
    some (.inl ((x5_152 + (1 : Int32)), m152_4))
def p_Md_hold (a1 : Int32) (M : Mem) : Option (Mem) :=
  bnd (itr zfu (fun s => p_Md_hold_L10 M s.1 s.2.1 s.2.2.1 s.2.2.2) ((0 : Int32), (0 : Int32), (0 : Int32), (0 : Int32))) fun q1 =>
  if a1 = 0 then
    if q1.1 < (M.1 0 23) then
      nm (wF M 0 23 q1.1) fun m7 =>
      nm (wF m7 0 24 q1.2.1) fun m8 =>
      bnd (itr zfu (fun s => p_Md_hold_L152 s.1 s.2) ((0 : Int32), m8)) fun q9 =>
      some q9.2
    else
      if q1.1 = (M.1 0 23) then
        if q1.2.1 < (M.1 0 24) then
          nm (wF M 0 23 q1.1) fun m12 =>
          nm (wF m12 0 24 q1.2.1) fun m13 =>
          bnd (itr zfu (fun s => p_Md_hold_L152 s.1 s.2) ((0 : Int32), m13)) fun q14 =>
          some q14.2
        else
          if q1.2.1 = (M.1 0 24) then
            if 0 ≤ q1.2.2.1 then
              some M
            else
              nm (wF M 0 23 q1.1) fun m17 =>
              nm (wF m17 0 24 q1.2.1) fun m18 =>
              bnd (itr zfu (fun s => p_Md_hold_L152 s.1 s.2) ((0 : Int32), m18)) fun q19 =>
              some q19.2
          else
            some M
      else
        some M
  else
    nm (wF M 0 23 q1.1) fun m3 =>
    nm (wF m3 0 24 q1.2.1) fun m4 =>
    bnd (itr zfu (fun s => p_Md_hold_L152 s.1 s.2) ((0 : Int32), m4)) fun q5 =>
    some q5.2
-- ExactShares2Model.next(I)I
def p_Md_next_L28 (a1 : Int32) (M : Mem) (x2_11 : Int32) (x3_28 : Int32) (x4_28 : Int32) : Option ((Int32 × Int32) ⊕ (Int32 × Int32)) :=
  if x2_11 ≤ x4_28 then
    some (.inr (x3_28, x4_28))
  else
    if x3_28 = 0 then
      some (.inl ((0 : Int32), (x4_28 + (1 : Int32))))
    else
      chk (inb (((6 : Int32) * x4_28) + a1) 36) <|
      chk (inb (((6 : Int32) * x2_11) + a1) 36) <|
      if (M.1 10 (Int32.toNatClampNeg (((6 : Int32) * x4_28) + a1))) = (M.1 10 (Int32.toNatClampNeg (((6 : Int32) * x2_11) + a1))) then
        some (.inl ((0 : Int32), (x4_28 + (1 : Int32))))
      else
        some (.inl ((1 : Int32), (x4_28 + (1 : Int32))))
def p_Md_next_L11 (a1 : Int32) (M : Mem) (x2_11 : Int32) (x3_11 : Int32) : Option ((Int32 × Int32) ⊕ (Int32 × Int32)) :=
  if (M.1 0 13) < x2_11 then
    some (.inr (x2_11, x3_11))
  else
    if x3_11 = 0 then
      bnd (itr zfu (fun s => p_Md_next_L28 a1 M x2_11 s.1 s.2) ((1 : Int32), (0 : Int32))) fun q11_3 =>
      if q11_3.1 = 0 then
        some (.inl ((x2_11 + (1 : Int32)), q11_3.1))
      else
        some (.inl ((x2_11 + (0 : Int32)), q11_3.1))
    else
      some (.inr (x2_11, x3_11))
def p_Md_next (a1 : Int32) (M : Mem) : Option (Int32) :=
  chk (inb a1 6) <|
  bnd (itr zfu (fun s => p_Md_next_L11 a1 M s.1 s.2) (((M.1 16 (Int32.toNatClampNeg a1)) + (1 : Int32)), (0 : Int32))) fun q2 =>
  chk (inb a1 6) <|
  if (M.1 9 (Int32.toNatClampNeg a1)) = 0 then
    some q2.1
  else
    some ((M.1 0 13) + (1 : Int32))
-- ExactShares2Model.findNearest(I)Z
def p_Md_findNearest_L2 (x2_2 : Int32) (M_2 : Mem) : Option ((Int32 × Mem) ⊕ (Int32 × Mem)) :=
  if (M_2.1 0 1) ≤ x2_2 then
    some (.inr (x2_2, M_2))
  else
    chk (inb x2_2 6) <|
    nm (wI M_2 16 x2_2 (0 : Int32)) fun m2_3 =>
    some (.inl ((x2_2 + (1 : Int32)), m2_3))
def p_Md_findNearest_L38 (x4_38 : Int32) (M_38 : Mem) : Option ((Int32 × Mem) ⊕ (Int32 × Mem)) :=
  if (M_38.1 0 1) ≤ x4_38 then
    some (.inr (x4_38, M_38))
  else
    chk (inb x4_38 6) <|
    chk (inb (((6 : Int32) * (M_38.1 16 (Int32.toNatClampNeg x4_38))) + x4_38) 36) <|
    chk (inb x4_38 6) <|
    nm (wI M_38 11 x4_38 (M_38.1 10 (Int32.toNatClampNeg (((6 : Int32) * (M_38.1 16 (Int32.toNatClampNeg x4_38))) + x4_38)))) fun m38_5 =>
    some (.inl ((x4_38 + (1 : Int32)), m38_5))
def p_Md_findNearest_L105 (x3_105 : Int32) (M_105 : Mem) : Option ((Int32 × Mem) ⊕ (Int32 × Mem)) :=
  if (M_105.1 0 1) ≤ x3_105 then
    some (.inr (x3_105, M_105))
  else
    bnd (p_Md_next x3_105 M_105) fun q105_2 =>
    if q105_2 ≤ (M_105.1 0 13) then
      some (.inr (x3_105, M_105))
    else
      chk (inb x3_105 6) <|
      nm (wI M_105 16 x3_105 (0 : Int32)) fun m105_5 =>
      some (.inl ((x3_105 + (1 : Int32)), m105_5))
def p_Md_findNearest_L27 (a1 : Int32) (x2_27 : Int32) (x3_27 : Int32) (M_27 : Mem) : Option ((Int32 × Int32 × Mem) ⊕ (Int32 × Int32 × Mem)) :=
  if (M_27.1 0 1) ≤ x3_27 then
    some (.inr (x2_27, x3_27, M_27))
  else
    bnd (itr zfu (fun s => p_Md_findNearest_L38 s.1 s.2) ((0 : Int32), M_27)) fun q27_2 =>
    bnd (p_Md_answerNow  q27_2.2) fun q27_3 =>
    if (lg_cmp q27_3 (Int32.toInt64 a1)) < 0 then
      bnd (itr zfu (fun s => p_Md_findNearest_L105 s.1 s.2) ((0 : Int32), q27_2.2)) fun q27_5 =>
      if (q27_5.2.1 0 1) ≤ q27_5.1 then
        some (.inl (x2_27, q27_5.1, q27_5.2))
      else
        bnd (p_Md_next q27_5.1 q27_5.2) fun q27_7 =>
        chk (inb q27_5.1 6) <|
        nm (wI q27_5.2 16 q27_5.1 q27_7) fun m27_9 =>
        some (.inl (x2_27, q27_5.1, m27_9))
    else
      if x2_27 = 0 then
        bnd (p_Md_hold (1 : Int32) q27_2.2) fun q27_20 =>
        bnd (itr zfu (fun s => p_Md_findNearest_L105 s.1 s.2) ((0 : Int32), q27_20)) fun q27_21 =>
        if (q27_21.2.1 0 1) ≤ q27_21.1 then
          some (.inl ((1 : Int32), q27_21.1, q27_21.2))
        else
          bnd (p_Md_next q27_21.1 q27_21.2) fun q27_23 =>
          chk (inb q27_21.1 6) <|
          nm (wI q27_21.2 16 q27_21.1 q27_23) fun m27_25 =>
          some (.inl ((1 : Int32), q27_21.1, m27_25))
      else
        bnd (p_Md_hold (0 : Int32) q27_2.2) fun q27_12 =>
        bnd (itr zfu (fun s => p_Md_findNearest_L105 s.1 s.2) ((0 : Int32), q27_12)) fun q27_13 =>
        if (q27_13.2.1 0 1) ≤ q27_13.1 then
          some (.inl ((1 : Int32), q27_13.1, q27_13.2))
        else
          bnd (p_Md_next q27_13.1 q27_13.2) fun q27_15 =>
          chk (inb q27_13.1 6) <|
          nm (wI q27_13.2 16 q27_13.1 q27_15) fun m27_17 =>
          some (.inl ((1 : Int32), q27_13.1, m27_17))
def p_Md_findNearest (a1 : Int32) (M : Mem) : Option (Int32 × Mem) :=
  bnd (itr zfu (fun s => p_Md_findNearest_L2 s.1 s.2) ((0 : Int32), M)) fun q1 =>
  bnd (itr zfu (fun s => p_Md_findNearest_L27 a1 s.1 s.2.1 s.2.2) ((0 : Int32), (0 : Int32), q1.2)) fun q2 =>
  chk (zbl q2.1) <|
  some (q2.1, q2.2.2)
-- ExactShares2Model.nearest(I)I
def p_Md_nearest (a1 : Int32) (M : Mem) : Option (Int32 × Mem) :=
  nm (wF M 0 0 (0 : Int32)) fun m1 =>
  bnd (p_Md_findNearest a1 m1) fun q2 =>
  if q2.1 = 0 then
    some ((-3 : Int32), q2.2)
  else
    some ((q2.2.1 0 23), q2.2)
-- ExactShares2Model.nearestAt(II)J
def p_Md_nearestAt (a1 : Int32) (a2 : Int32) (M : Mem) : Option (Int64 × Mem) :=
  nm (wF M 0 0 (0 : Int32)) fun m1 =>
  bnd (p_Md_isColumn a2 m1) fun q2 =>
  if q2 = 0 then
    some ((-1000000000000 : Int64), m1)
  else
    bnd (p_Md_findNearest a1 m1) fun q4 =>
    if q4.1 = 0 then
      some ((-1000000000000 : Int64), q4.2)
    else
      chk (inb a2 6) <|
      some ((Int32.toInt64 (q4.2.1 17 (Int32.toNatClampNeg a2))), q4.2)
end
section
abbrev rm_Ln_addNode : Room := ({ frames := 0, cells := 0, slots := 0, locals := 0 } : Room)
set_option maxHeartbeats 4000000 in
set_option maxRecDepth 100000 in
theorem c_Ln_addNode (l : Launch) (G : zG) (a1 : Int32) (a2 : Int32) (a3 : Int32) (a4 : Int32) (M : Mem) (r : Int32 × Mem) (h : p_Ln_addNode a1 a2 a3 a4 M = some r) : MetZC l G y_Ln_addNode (Cond.code y_Ln_addNode b_Ln_addNode 5 (some .int) :: zws) rm_Ln_addNode [.ref (G.1 1), .int a1, .int a2, .int a3, .int a4] M (some (.int r.1)) r.2 := by
  unfold p_Ln_addNode at h
  refine z_ofWC (lv := [(0, .ref (G.1 1)), (1, .int a1), (2, .int a2), (3, .int a3), (4, .int a4)]) (by decide) (Nat.le_of_ble_eq_true rfl) rfl (fun p e R s m args below meth c Q ls F hl hZ => ?_)
  obtain ⟨hx0, hb, hml, hr, hts, hown, hlocks, rfl, hQ⟩ := F
  refine lv_aload_n hx0 hb d_Ln_addNode_0 rfl (lv_at hl 0 rfl) ?_
  refine fg_Ln_nodeCount hx0 hb hts hown hZ d_Ln_addNode_1 ?_
  refine lv_bipush (v := (30 : Int32)) hx0 hb d_Ln_addNode_4 (by decide) ?_
  refine lv_icmp_lt (tgt := 12) hx0 hb d_Ln_addNode_6 (by decide) (fun c1 => ?_) (fun c1 => ?_)
  · replace h := (if_pos c1).symm.trans h
    refine lv_aload_n hx0 hb d_Ln_addNode_12 rfl (lv_at hl 0 rfl) ?_
    refine fg_Ln_columnOf hx0 hb hts hown hZ d_Ln_addNode_13 ?_
    refine lv_aload_n hx0 hb d_Ln_addNode_16 rfl (lv_at hl 0 rfl) ?_
    refine fg_Ln_nodeCount hx0 hb hts hown hZ d_Ln_addNode_17 ?_
    refine lv_iload_n hx0 hb d_Ln_addNode_20 rfl (lv_at hl 1 rfl) ?_
    obtain ⟨hi2, h⟩ := chk_some h
    refine z_iastoreC (k := 2) hx0 hb hZ hi2 d_Ln_addNode_21 (fun H locs hZ => ?_)
    obtain ⟨m3, em3, h⟩ := nm_some h
    rw [em3] at hZ
    refine lv_aload_n hx0 hb d_Ln_addNode_22 rfl (lv_at hl 0 rfl) ?_
    refine fg_Ln_numberOf hx0 hb hts hown hZ d_Ln_addNode_23 ?_
    refine lv_aload_n hx0 hb d_Ln_addNode_26 rfl (lv_at hl 0 rfl) ?_
    refine fg_Ln_nodeCount hx0 hb hts hown hZ d_Ln_addNode_27 ?_
    refine lv_iload_n hx0 hb d_Ln_addNode_30 rfl (lv_at hl 2 rfl) ?_
    obtain ⟨hi4, h⟩ := chk_some h
    refine z_iastoreC (k := 3) hx0 hb hZ hi4 d_Ln_addNode_31 (fun H locs hZ => ?_)
    obtain ⟨m5, em5, h⟩ := nm_some h
    rw [em5] at hZ
    refine lv_aload_n hx0 hb d_Ln_addNode_32 rfl (lv_at hl 0 rfl) ?_
    refine fg_Ln_lowOf hx0 hb hts hown hZ d_Ln_addNode_33 ?_
    refine lv_aload_n hx0 hb d_Ln_addNode_36 rfl (lv_at hl 0 rfl) ?_
    refine fg_Ln_nodeCount hx0 hb hts hown hZ d_Ln_addNode_37 ?_
    refine lv_iload_n hx0 hb d_Ln_addNode_40 rfl (lv_at hl 3 rfl) ?_
    obtain ⟨hi6, h⟩ := chk_some h
    refine z_iastoreC (k := 4) hx0 hb hZ hi6 d_Ln_addNode_41 (fun H locs hZ => ?_)
    obtain ⟨m7, em7, h⟩ := nm_some h
    rw [em7] at hZ
    refine lv_aload_n hx0 hb d_Ln_addNode_42 rfl (lv_at hl 0 rfl) ?_
    refine fg_Ln_highOf hx0 hb hts hown hZ d_Ln_addNode_43 ?_
    refine lv_aload_n hx0 hb d_Ln_addNode_46 rfl (lv_at hl 0 rfl) ?_
    refine fg_Ln_nodeCount hx0 hb hts hown hZ d_Ln_addNode_47 ?_
    refine lv_iload hx0 hb d_Ln_addNode_50 (lv_at hl 4 rfl) ?_
    obtain ⟨hi8, h⟩ := chk_some h
    refine z_iastoreC (k := 5) hx0 hb hZ hi8 d_Ln_addNode_52 (fun H locs hZ => ?_)
    obtain ⟨m9, em9, h⟩ := nm_some h
    rw [em9] at hZ
    refine lv_aload_n hx0 hb d_Ln_addNode_53 rfl (lv_at hl 0 rfl) ?_
    refine lv_dup hx0 hb d_Ln_addNode_54 rfl ?_
    refine fg_Ln_nodeCount hx0 hb hts hown hZ d_Ln_addNode_55 ?_
    refine lv_iconst (v := (1 : Int32)) hx0 hb d_Ln_addNode_58 (by decide) ?_
    refine lv_iadd hx0 hb d_Ln_addNode_59 ?_
    refine fp_Ln_nodeCount hx0 hb hts hown hZ d_Ln_addNode_60 (fun H locs hZ => ?_)
    obtain ⟨m10, em10, h⟩ := nm_some h
    rw [em10] at hZ
    refine lv_aload_n hx0 hb d_Ln_addNode_63 rfl (lv_at hl 0 rfl) ?_
    refine fg_Ln_nodeCount hx0 hb hts hown hZ d_Ln_addNode_64 ?_
    refine lv_iconst (v := (1 : Int32)) hx0 hb d_Ln_addNode_67 (by decide) ?_
    refine lv_isub hx0 hb d_Ln_addNode_68 ?_
    obtain rfl := Option.some.inj h
    exact z_iretC hx0 hb hr hZ hlocks hQ d_Ln_addNode_69
  · replace h := (if_neg c1).symm.trans h
    refine lv_bipush (v := (-4 : Int32)) hx0 hb d_Ln_addNode_9 (by decide) ?_
    obtain rfl := Option.some.inj h
    exact z_iretC hx0 hb hr hZ hlocks hQ d_Ln_addNode_11
abbrev rm_Ln_addLeaf : Room := ({ frames := 1, cells := 0, slots := 0, locals := 24 } : Room)
set_option maxHeartbeats 4000000 in
set_option maxRecDepth 100000 in
theorem c_Ln_addLeaf (l : Launch) (G : zG) (a1 : Int32) (M : Mem) (r : Int32 × Mem) (h : p_Ln_addLeaf a1 M = some r) : MetZC l G y_Ln_addLeaf (Cond.code y_Ln_addLeaf b_Ln_addLeaf 2 (some .int) :: zws) rm_Ln_addLeaf [.ref (G.1 1), .int a1] M (some (.int r.1)) r.2 := by
  unfold p_Ln_addLeaf at h
  refine z_ofWC (lv := [(0, .ref (G.1 1)), (1, .int a1)]) (by decide) (Nat.le_of_ble_eq_true rfl) rfl (fun p e R s m args below meth c Q ls F hl hZ => ?_)
  obtain ⟨hx0, hb, hml, hr, hts, hown, hlocks, rfl, hQ⟩ := F
  refine lv_aload_n hx0 hb d_Ln_addLeaf_0 rfl (lv_at hl 0 rfl) ?_
  refine lv_iconst (v := (-1 : Int32)) hx0 hb d_Ln_addLeaf_1 (by decide) ?_
  refine lv_iload_n hx0 hb d_Ln_addLeaf_2 rfl (lv_at hl 1 rfl) ?_
  refine lv_iconst (v := (0 : Int32)) hx0 hb d_Ln_addLeaf_3 (by decide) ?_
  refine lv_iconst (v := (0 : Int32)) hx0 hb d_Ln_addLeaf_4 (by decide) ?_
  obtain ⟨q1, hc2, h⟩ := bnd_some h
  refine k_Ln_Ln_addNode [.int (-1 : Int32), .int a1, .int (0 : Int32), .int (0 : Int32)] hx0 hb hml hts hown (c_Ln_addNode l G (-1 : Int32) a1 (0 : Int32) (0 : Int32) M q1 hc2) hZ rfl rfl ⟨Nat.le_of_ble_eq_true rfl, Nat.le_of_ble_eq_true rfl⟩ hl.1 rfl (Nat.le_of_ble_eq_true rfl) d_Ln_addLeaf_5 (fun H locs hZ => ?_)
  obtain rfl := Option.some.inj h
  exact z_iretC hx0 hb hr hZ hlocks hQ d_Ln_addLeaf_8
abbrev rm_Ln_hasNode : Room := ({ frames := 0, cells := 0, slots := 0, locals := 0 } : Room)
set_option maxHeartbeats 4000000 in
set_option maxRecDepth 100000 in
theorem c_Ln_hasNode (l : Launch) (G : zG) (a1 : Int32) (M : Mem) (r : Int32) (h : p_Ln_hasNode a1 M = some r) : MetZC l G y_Ln_hasNode (Cond.code y_Ln_hasNode b_Ln_hasNode 2 (some .boolean) :: zws) rm_Ln_hasNode [.ref (G.1 1), .int a1] M (some (.int r)) M := by
  unfold p_Ln_hasNode at h
  refine z_ofWC (lv := [(0, .ref (G.1 1)), (1, .int a1)]) (by decide) (Nat.le_of_ble_eq_true rfl) rfl (fun p e R s m args below meth c Q ls F hl hZ => ?_)
  obtain ⟨hx0, hb, hml, hr, hts, hown, hlocks, rfl, hQ⟩ := F
  refine lv_iload_n hx0 hb d_Ln_hasNode_0 rfl (lv_at hl 1 rfl) ?_
  refine lv_if_lt (tgt := 16) hx0 hb d_Ln_hasNode_1 (by decide) (fun c1 => ?_) (fun c1 => ?_)
  · replace h := (if_pos c1).symm.trans h
    refine lv_iconst (v := (0 : Int32)) hx0 hb d_Ln_hasNode_16 (by decide) ?_
    obtain rfl := Option.some.inj h
    exact z_zretC hx0 hb hr hZ hlocks hQ rfl d_Ln_hasNode_17
  · replace h := (if_neg c1).symm.trans h
    refine lv_iload_n hx0 hb d_Ln_hasNode_4 rfl (lv_at hl 1 rfl) ?_
    refine lv_aload_n hx0 hb d_Ln_hasNode_5 rfl (lv_at hl 0 rfl) ?_
    refine fg_Ln_nodeCount hx0 hb hts hown hZ d_Ln_hasNode_6 ?_
    refine lv_icmp_ge (tgt := 16) hx0 hb d_Ln_hasNode_9 (by decide) (fun c2 => ?_) (fun c2 => ?_)
    · replace h := (if_pos c2).symm.trans h
      refine lv_iconst (v := (0 : Int32)) hx0 hb d_Ln_hasNode_16 (by decide) ?_
      obtain rfl := Option.some.inj h
      exact z_zretC hx0 hb hr hZ hlocks hQ rfl d_Ln_hasNode_17
    · replace h := (if_neg c2).symm.trans h
      refine lv_iconst (v := (1 : Int32)) hx0 hb d_Ln_hasNode_12 (by decide) ?_
      refine lv_goto (tgt := 17) hx0 hb d_Ln_hasNode_13 (by decide) ?_
      obtain rfl := Option.some.inj h
      exact z_zretC hx0 hb hr hZ hlocks hQ rfl d_Ln_hasNode_17
abbrev rm_Ln_addSplit : Room := ({ frames := 1, cells := 0, slots := 0, locals := 24 } : Room)
set_option maxHeartbeats 4000000 in
set_option maxRecDepth 100000 in
theorem c_Ln_addSplit (l : Launch) (G : zG) (a1 : Int32) (a2 : Int32) (a3 : Int32) (a4 : Int32) (M : Mem) (r : Int32 × Mem) (h : p_Ln_addSplit a1 a2 a3 a4 M = some r) : MetZC l G y_Ln_addSplit (Cond.code y_Ln_addSplit b_Ln_addSplit 5 (some .int) :: zws) rm_Ln_addSplit [.ref (G.1 1), .int a1, .int a2, .int a3, .int a4] M (some (.int r.1)) r.2 := by
  unfold p_Ln_addSplit at h
  refine z_ofWC (lv := [(0, .ref (G.1 1)), (1, .int a1), (2, .int a2), (3, .int a3), (4, .int a4)]) (by decide) (Nat.le_of_ble_eq_true rfl) rfl (fun p e R s m args below meth c Q ls F hl hZ => ?_)
  obtain ⟨hx0, hb, hml, hr, hts, hown, hlocks, rfl, hQ⟩ := F
  refine lv_aload_n hx0 hb d_Ln_addSplit_0 rfl (lv_at hl 0 rfl) ?_
  refine lv_iload_n hx0 hb d_Ln_addSplit_1 rfl (lv_at hl 1 rfl) ?_
  refine lv_iload_n hx0 hb d_Ln_addSplit_2 rfl (lv_at hl 2 rfl) ?_
  refine lv_iload_n hx0 hb d_Ln_addSplit_3 rfl (lv_at hl 3 rfl) ?_
  refine lv_iload hx0 hb d_Ln_addSplit_4 (lv_at hl 4 rfl) ?_
  obtain ⟨q1, hc2, h⟩ := bnd_some h
  refine k_Ln_Ln_addNode [.int a1, .int a2, .int a3, .int a4] hx0 hb hml hts hown (c_Ln_addNode l G a1 a2 a3 a4 M q1 hc2) hZ rfl rfl ⟨Nat.le_of_ble_eq_true rfl, Nat.le_of_ble_eq_true rfl⟩ hl.1 rfl (Nat.le_of_ble_eq_true rfl) d_Ln_addSplit_6 (fun H locs hZ => ?_)
  obtain rfl := Option.some.inj h
  exact z_iretC hx0 hb hr hZ hlocks hQ d_Ln_addSplit_9
abbrev rm_Ln_addRoot : Room := ({ frames := 0, cells := 0, slots := 0, locals := 0 } : Room)
set_option maxHeartbeats 4000000 in
set_option maxRecDepth 100000 in
theorem c_Ln_addRoot (l : Launch) (G : zG) (a1 : Int32) (M : Mem) (r : Int32 × Mem) (h : p_Ln_addRoot a1 M = some r) : MetZC l G y_Ln_addRoot (Cond.code y_Ln_addRoot b_Ln_addRoot 2 (some .int) :: zws) rm_Ln_addRoot [.ref (G.1 1), .int a1] M (some (.int r.1)) r.2 := by
  unfold p_Ln_addRoot at h
  refine z_ofWC (lv := [(0, .ref (G.1 1)), (1, .int a1)]) (by decide) (Nat.le_of_ble_eq_true rfl) rfl (fun p e R s m args below meth c Q ls F hl hZ => ?_)
  obtain ⟨hx0, hb, hml, hr, hts, hown, hlocks, rfl, hQ⟩ := F
  refine lv_aload_n hx0 hb d_Ln_addRoot_0 rfl (lv_at hl 0 rfl) ?_
  refine fg_Ln_rootCount hx0 hb hts hown hZ d_Ln_addRoot_1 ?_
  refine lv_iconst (v := (4 : Int32)) hx0 hb d_Ln_addRoot_4 (by decide) ?_
  refine lv_icmp_lt (tgt := 11) hx0 hb d_Ln_addRoot_5 (by decide) (fun c1 => ?_) (fun c1 => ?_)
  · replace h := (if_pos c1).symm.trans h
    refine lv_aload_n hx0 hb d_Ln_addRoot_11 rfl (lv_at hl 0 rfl) ?_
    refine fg_Ln_roots hx0 hb hts hown hZ d_Ln_addRoot_12 ?_
    refine lv_aload_n hx0 hb d_Ln_addRoot_15 rfl (lv_at hl 0 rfl) ?_
    refine fg_Ln_rootCount hx0 hb hts hown hZ d_Ln_addRoot_16 ?_
    refine lv_iload_n hx0 hb d_Ln_addRoot_19 rfl (lv_at hl 1 rfl) ?_
    obtain ⟨hi2, h⟩ := chk_some h
    refine z_iastoreC (k := 7) hx0 hb hZ hi2 d_Ln_addRoot_20 (fun H locs hZ => ?_)
    obtain ⟨m3, em3, h⟩ := nm_some h
    rw [em3] at hZ
    refine lv_aload_n hx0 hb d_Ln_addRoot_21 rfl (lv_at hl 0 rfl) ?_
    refine lv_dup hx0 hb d_Ln_addRoot_22 rfl ?_
    refine fg_Ln_rootCount hx0 hb hts hown hZ d_Ln_addRoot_23 ?_
    refine lv_iconst (v := (1 : Int32)) hx0 hb d_Ln_addRoot_26 (by decide) ?_
    refine lv_iadd hx0 hb d_Ln_addRoot_27 ?_
    refine fp_Ln_rootCount hx0 hb hts hown hZ d_Ln_addRoot_28 (fun H locs hZ => ?_)
    obtain ⟨m4, em4, h⟩ := nm_some h
    rw [em4] at hZ
    refine lv_aload_n hx0 hb d_Ln_addRoot_31 rfl (lv_at hl 0 rfl) ?_
    refine fg_Ln_rootCount hx0 hb hts hown hZ d_Ln_addRoot_32 ?_
    obtain rfl := Option.some.inj h
    exact z_iretC hx0 hb hr hZ hlocks hQ d_Ln_addRoot_35
  · replace h := (if_neg c1).symm.trans h
    refine lv_bipush (v := (-4 : Int32)) hx0 hb d_Ln_addRoot_8 (by decide) ?_
    obtain rfl := Option.some.inj h
    exact z_iretC hx0 hb hr hZ hlocks hQ d_Ln_addRoot_10
abbrev rm_Ln_weigh : Room := ({ frames := 0, cells := 0, slots := 0, locals := 0 } : Room)
set_option maxHeartbeats 4000000 in
set_option maxRecDepth 100000 in
theorem c_Ln_weigh (l : Launch) (G : zG) (a1 : Int32) (a2 : Int32) (M : Mem) (r : Mem) (h : p_Ln_weigh a1 a2 M = some r) : MetZC l G y_Ln_weigh (Cond.code y_Ln_weigh b_Ln_weigh 3 none :: zws) rm_Ln_weigh [.ref (G.1 1), .int a1, .int a2] M none r := by
  unfold p_Ln_weigh at h
  refine z_ofWC (lv := [(0, .ref (G.1 1)), (1, .int a1), (2, .int a2)]) (by decide) (Nat.le_of_ble_eq_true rfl) rfl (fun p e R s m args below meth c Q ls F hl hZ => ?_)
  obtain ⟨hx0, hb, hml, hr, hts, hown, hlocks, rfl, hQ⟩ := F
  refine lv_aload_n hx0 hb d_Ln_weigh_0 rfl (lv_at hl 0 rfl) ?_
  refine fg_Ln_weights hx0 hb hts hown hZ d_Ln_weigh_1 ?_
  refine lv_iload_n hx0 hb d_Ln_weigh_4 rfl (lv_at hl 1 rfl) ?_
  refine lv_iload_n hx0 hb d_Ln_weigh_5 rfl (lv_at hl 2 rfl) ?_
  obtain ⟨hi1, h⟩ := chk_some h
  refine z_iastoreC (k := 8) hx0 hb hZ hi1 d_Ln_weigh_6 (fun H locs hZ => ?_)
  obtain ⟨m2, em2, h⟩ := nm_some h
  rw [em2] at hZ
  obtain rfl := Option.some.inj h
  exact z_vretC hx0 hb hr hZ hlocks hQ d_Ln_weigh_7
abbrev rm_Ln_forget : Room := ({ frames := 0, cells := 0, slots := 0, locals := 0 } : Room)
set_option maxHeartbeats 4000000 in
set_option maxRecDepth 100000 in
theorem c_Ln_forget (l : Launch) (G : zG)  (M : Mem) (r : Int32 × Mem) (h : p_Ln_forget  M = some r) : MetZC l G y_Ln_forget (Cond.code y_Ln_forget b_Ln_forget 3 (some .int) :: zws) rm_Ln_forget [.ref (G.1 1)] M (some (.int r.1)) r.2 := by
  unfold p_Ln_forget at h
  refine z_ofWC (lv := [(0, .ref (G.1 1))]) (by decide) (Nat.le_of_ble_eq_true rfl) rfl (fun p e R s m args below meth c Q ls F hl hZ => ?_)
  obtain ⟨hx0, hb, hml, hr, hts, hown, hlocks, rfl, hQ⟩ := F
  refine lv_aload_n hx0 hb d_Ln_forget_0 rfl (lv_at hl 0 rfl) ?_
  refine fg_Ln_nodeCount hx0 hb hts hown hZ d_Ln_forget_1 ?_
  refine lv_istore_n (lv' := [(1, .int (M.1 1 7)), (0, .ref (G.1 1))]) hx0 hb d_Ln_forget_4 rfl hl (by decide) rfl (fun ls hl => ?_)
  refine lv_aload_n hx0 hb d_Ln_forget_5 rfl (lv_at hl 1 rfl) ?_
  refine lv_iconst (v := (0 : Int32)) hx0 hb d_Ln_forget_6 (by decide) ?_
  refine fp_Ln_nodeCount hx0 hb hts hown hZ d_Ln_forget_7 (fun H locs hZ => ?_)
  obtain ⟨m1, em1, h⟩ := nm_some h
  rw [em1] at hZ
  refine lv_aload_n hx0 hb d_Ln_forget_10 rfl (lv_at hl 1 rfl) ?_
  refine lv_iconst (v := (0 : Int32)) hx0 hb d_Ln_forget_11 (by decide) ?_
  refine fp_Ln_rootCount hx0 hb hts hown hZ d_Ln_forget_12 (fun H locs hZ => ?_)
  obtain ⟨m2, em2, h⟩ := nm_some h
  rw [em2] at hZ
  refine lv_iconst (v := (0 : Int32)) hx0 hb d_Ln_forget_15 (by decide) ?_
  refine lv_istore_n (lv' := [(2, .int (0 : Int32)), (1, .int (M.1 1 7)), (0, .ref (G.1 1))]) hx0 hb d_Ln_forget_16 rfl hl (by decide) rfl (fun ls hl => ?_)
  obtain ⟨q3, hq4, h⟩ := bnd_some h
  refine W_itr (At := fun (s0 : Int32 × Mem) => ∀ (H : Heap) (locs : List Loc) (ls : Array Slot), ZZC G s s0.2 H locs → lv_has ls 3 [(2, .int s0.1), (1, .int (M.1 1 7)), (0, .ref (G.1 1))] → W p l e rm_Ln_forget s m args below meth c H locs 0 0 Q (F0 m 17 ls [])) (Ex := fun (q0 : Int32 × Mem) => ∀ (H : Heap) (locs : List Loc) (ls : Array Slot), ZZC G s q0.2 H locs → lv_has ls 3 [(1, .int (M.1 1 7))] → W p l e rm_Ln_forget s m args below meth c H locs 0 0 Q (F0 m 36 ls [])) (fun s0 x h hx => ?_) _ _ q3 hq4 (fun H locs ls hZ hl => ?_) _ _ _ hZ (lv_sub hl [0, 1, 2] rfl)
  · obtain ⟨x2_17, M_17⟩ := s0
    replace h : p_Ln_forget_L17 x2_17 M_17 = some x := h
    unfold p_Ln_forget_L17 at h
    intro H locs ls hZ hl
    replace hZ : ZZC G s M_17 H locs := hZ
    replace hl : lv_has ls 3 [(2, .int x2_17), (1, .int (M.1 1 7)), (0, .ref (G.1 1))] := hl
    refine lv_iload_n hx0 hb d_Ln_forget_17 rfl (lv_at hl 0 rfl) ?_
    refine lv_bipush (v := (6 : Int32)) hx0 hb d_Ln_forget_18 (by decide) ?_
    refine lv_icmp_ge (tgt := 36) hx0 hb d_Ln_forget_20 (by decide) (fun c17_1 => ?_) (fun c17_1 => ?_)
    · replace h := (if_pos c17_1).symm.trans h
      obtain rfl := Option.some.inj h
      exact hx _ _ _ hZ (lv_sub hl [1] rfl)
    · replace h := (if_neg c17_1).symm.trans h
      refine lv_aload_n hx0 hb d_Ln_forget_23 rfl (lv_at hl 2 rfl) ?_
      refine fg_Ln_weights hx0 hb hts hown hZ d_Ln_forget_24 ?_
      refine lv_iload_n hx0 hb d_Ln_forget_27 rfl (lv_at hl 0 rfl) ?_
      refine lv_iconst (v := (0 : Int32)) hx0 hb d_Ln_forget_28 (by decide) ?_
      obtain ⟨hi17_2, h⟩ := chk_some h
      refine z_iastoreC (k := 8) hx0 hb hZ hi17_2 d_Ln_forget_29 (fun H locs hZ => ?_)
      obtain ⟨m17_3, em17_3, h⟩ := nm_some h
      rw [em17_3] at hZ
      refine lv_iinc (v := (x2_17 + (1 : Int32))) (lv' := [(2, .int (x2_17 + (1 : Int32))), (1, .int (M.1 1 7)), (0, .ref (G.1 1))]) hx0 hb d_Ln_forget_30 hl (k := 0) rfl rfl (by decide) rfl (fun ls hl => ?_)
      refine lv_goto (tgt := 17) hx0 hb d_Ln_forget_33 (by decide) ?_
      obtain rfl := Option.some.inj h
      exact hx _ _ _ hZ (lv_sub hl [0, 1, 2] rfl)
  · replace hZ : ZZC G s q3.2 H locs := hZ
    replace hl : lv_has ls 3 [(1, .int (M.1 1 7))] := hl
    refine lv_iload_n hx0 hb d_Ln_forget_36 rfl (lv_at hl 0 rfl) ?_
    obtain rfl := Option.some.inj h
    exact z_iretC hx0 hb hr hZ hlocks hQ d_Ln_forget_37
abbrev rm_Ln_givenBy : Room := ({ frames := 0, cells := 0, slots := 0, locals := 0 } : Room)
set_option maxHeartbeats 4000000 in
set_option maxRecDepth 100000 in
theorem c_Ln_givenBy (l : Launch) (G : zG) (a1 : Int32) (a2 : Nat) (M : Mem) (r : Int32) (h : p_Ln_givenBy a1 a2 M = some r) : MetZC l G y_Ln_givenBy (Cond.code y_Ln_givenBy b_Ln_givenBy 6 (some .int) :: zws) rm_Ln_givenBy [.ref (G.1 1), .int a1, .ref (G.1 a2)] M (some (.int r)) M := by
  unfold p_Ln_givenBy at h
  refine z_ofWC (lv := [(0, .ref (G.1 1)), (1, .int a1), (2, .ref (G.1 a2))]) (by decide) (Nat.le_of_ble_eq_true rfl) rfl (fun p e R s m args below meth c Q ls F hl hZ => ?_)
  obtain ⟨hx0, hb, hml, hr, hts, hown, hlocks, rfl, hQ⟩ := F
  refine lv_iload_n hx0 hb d_Ln_givenBy_0 rfl (lv_at hl 1 rfl) ?_
  refine lv_istore_n (lv' := [(3, .int a1), (0, .ref (G.1 1)), (1, .int a1), (2, .ref (G.1 a2))]) hx0 hb d_Ln_givenBy_1 rfl hl (by decide) rfl (fun ls hl => ?_)
  refine lv_iconst (v := (0 : Int32)) hx0 hb d_Ln_givenBy_2 (by decide) ?_
  refine lv_istore (lv' := [(4, .int (0 : Int32)), (3, .int a1), (0, .ref (G.1 1)), (1, .int a1), (2, .ref (G.1 a2))]) hx0 hb d_Ln_givenBy_3 hl (by decide) rfl (fun ls hl => ?_)
  obtain ⟨q1, hq3, h⟩ := bnd_some h
  refine W_itr (At := fun (s0 : Int32 × Int32) => ∀ (H : Heap) (locs : List Loc) (ls : Array Slot), ZZC G s M H locs → lv_has ls 6 [(4, .int s0.2), (3, .int s0.1), (0, .ref (G.1 1)), (2, .ref (G.1 a2))] → W p l e rm_Ln_givenBy s m args below meth c H locs 0 0 Q (F0 m 5 ls [])) (Ex := fun (q0 : Int32 × Int32) => ∀ (H : Heap) (locs : List Loc) (ls : Array Slot), ZZC G s M H locs → lv_has ls 6 [(3, .int q0.1), (0, .ref (G.1 1))] → W p l e rm_Ln_givenBy s m args below meth c H locs 0 0 Q (F0 m 75 ls [])) (fun s0 x h hx => ?_) _ _ q1 hq3 (fun H locs ls hZ hl => ?_) _ _ _ hZ (lv_sub hl [0, 1, 2, 4] rfl)
  · obtain ⟨x3_5, x4_5⟩ := s0
    replace h : p_Ln_givenBy_L5 a2 M x3_5 x4_5 = some x := h
    unfold p_Ln_givenBy_L5 at h
    intro H locs ls hZ hl
    replace hZ : ZZC G s M H locs := hZ
    replace hl : lv_has ls 6 [(4, .int x4_5), (3, .int x3_5), (0, .ref (G.1 1)), (2, .ref (G.1 a2))] := hl
    refine lv_iload hx0 hb d_Ln_givenBy_5 (lv_at hl 0 rfl) ?_
    refine lv_aload_n hx0 hb d_Ln_givenBy_7 rfl (lv_at hl 2 rfl) ?_
    refine fg_Ln_nodeCount hx0 hb hts hown hZ d_Ln_givenBy_8 ?_
    refine lv_icmp_ge (tgt := 75) hx0 hb d_Ln_givenBy_11 (by decide) (fun c5_1 => ?_) (fun c5_1 => ?_)
    · replace h := (if_pos c5_1).symm.trans h
      obtain rfl := Option.some.inj h
      exact hx _ _ _ hZ (lv_sub hl [1, 2] rfl)
    · replace h := (if_neg c5_1).symm.trans h
      refine lv_aload_n hx0 hb d_Ln_givenBy_14 rfl (lv_at hl 2 rfl) ?_
      refine fg_Ln_columnOf hx0 hb hts hown hZ d_Ln_givenBy_15 ?_
      refine lv_iload_n hx0 hb d_Ln_givenBy_18 rfl (lv_at hl 1 rfl) ?_
      obtain ⟨hi5_2, h⟩ := chk_some h
      refine z_ialoadC (k := 2) hx0 hb hZ hi5_2 d_Ln_givenBy_19 ?_
      refine lv_iconst (v := (-1 : Int32)) hx0 hb d_Ln_givenBy_20 (by decide) ?_
      refine lv_icmp_eq (tgt := 75) hx0 hb d_Ln_givenBy_21 (by decide) (fun c5_3 => ?_) (fun c5_3 => ?_)
      · replace h := (if_pos c5_3).symm.trans h
        obtain rfl := Option.some.inj h
        exact hx _ _ _ hZ (lv_sub hl [1, 2] rfl)
      · replace h := (if_neg c5_3).symm.trans h
        refine lv_aload_n hx0 hb d_Ln_givenBy_24 rfl (lv_at hl 3 rfl) ?_
        refine lv_aload_n hx0 hb d_Ln_givenBy_25 rfl (lv_at hl 2 rfl) ?_
        refine fg_Ln_columnOf hx0 hb hts hown hZ d_Ln_givenBy_26 ?_
        refine lv_iload_n hx0 hb d_Ln_givenBy_29 rfl (lv_at hl 1 rfl) ?_
        obtain ⟨hi5_4, h⟩ := chk_some h
        refine z_ialoadC (k := 2) hx0 hb hZ hi5_4 d_Ln_givenBy_30 ?_
        obtain ⟨hi5_5, h⟩ := chk_some h
        refine z_ialoadC (k := a2) hx0 hb hZ hi5_5 d_Ln_givenBy_31 ?_
        refine lv_aload_n hx0 hb d_Ln_givenBy_32 rfl (lv_at hl 2 rfl) ?_
        refine fg_Ln_numberOf hx0 hb hts hown hZ d_Ln_givenBy_33 ?_
        refine lv_iload_n hx0 hb d_Ln_givenBy_36 rfl (lv_at hl 1 rfl) ?_
        obtain ⟨hi5_6, h⟩ := chk_some h
        refine z_ialoadC (k := 3) hx0 hb hZ hi5_6 d_Ln_givenBy_37 ?_
        refine lv_icmp_gt (tgt := 45) hx0 hb d_Ln_givenBy_38 (by decide) (fun c5_7 => ?_) (fun c5_7 => ?_)
        · replace h := (if_pos c5_7).symm.trans h
          refine lv_iconst (v := (0 : Int32)) hx0 hb d_Ln_givenBy_45 (by decide) ?_
          refine lv_istore (lv' := [(5, .int (0 : Int32)), (4, .int x4_5), (3, .int x3_5), (0, .ref (G.1 1)), (2, .ref (G.1 a2))]) hx0 hb d_Ln_givenBy_46 hl (by decide) rfl (fun ls hl => ?_)
          refine lv_iload hx0 hb d_Ln_givenBy_48 (lv_at hl 0 rfl) ?_
          refine lv_if_eq (tgt := 62) hx0 hb d_Ln_givenBy_50 (by decide) (fun c5_8 => ?_) (fun c5_8 => ?_)
          · refine lv_aload_n hx0 hb d_Ln_givenBy_62 rfl (lv_at hl 3 rfl) ?_
            refine fg_Ln_highOf hx0 hb hts hown hZ d_Ln_givenBy_63 ?_
            refine lv_iload_n hx0 hb d_Ln_givenBy_66 rfl (lv_at hl 2 rfl) ?_
            obtain ⟨hi5_9, h⟩ := chk_some h
            refine z_ialoadC (k := 5) hx0 hb hZ hi5_9 d_Ln_givenBy_67 ?_
            refine lv_istore_n (lv' := [(3, .int (M.1 5 (Int32.toNatClampNeg x3_5))), (5, .int (0 : Int32)), (4, .int x4_5), (0, .ref (G.1 1)), (2, .ref (G.1 a2))]) hx0 hb d_Ln_givenBy_68 rfl hl (by decide) rfl (fun ls hl => ?_)
            refine lv_iinc (v := (x4_5 + (1 : Int32))) (lv' := [(4, .int (x4_5 + (1 : Int32))), (3, .int (M.1 5 (Int32.toNatClampNeg x3_5))), (5, .int (0 : Int32)), (0, .ref (G.1 1)), (2, .ref (G.1 a2))]) hx0 hb d_Ln_givenBy_69 hl (k := 2) rfl rfl (by decide) rfl (fun ls hl => ?_)
            refine lv_goto (tgt := 5) hx0 hb d_Ln_givenBy_72 (by decide) ?_
            obtain rfl := Option.some.inj h
            exact hx _ _ _ hZ (lv_sub hl [0, 1, 3, 4] rfl)
          · exact absurd c5_8 (by decide)
        · replace h := (if_neg c5_7).symm.trans h
          refine lv_iconst (v := (1 : Int32)) hx0 hb d_Ln_givenBy_41 (by decide) ?_
          refine lv_goto (tgt := 46) hx0 hb d_Ln_givenBy_42 (by decide) ?_
          refine lv_istore (lv' := [(5, .int (1 : Int32)), (4, .int x4_5), (3, .int x3_5), (0, .ref (G.1 1)), (2, .ref (G.1 a2))]) hx0 hb d_Ln_givenBy_46 hl (by decide) rfl (fun ls hl => ?_)
          refine lv_iload hx0 hb d_Ln_givenBy_48 (lv_at hl 0 rfl) ?_
          refine lv_if_eq (tgt := 62) hx0 hb d_Ln_givenBy_50 (by decide) (fun c5_10 => ?_) (fun c5_10 => ?_)
          · exact absurd c5_10 (by decide)
          · refine lv_aload_n hx0 hb d_Ln_givenBy_53 rfl (lv_at hl 3 rfl) ?_
            refine fg_Ln_lowOf hx0 hb hts hown hZ d_Ln_givenBy_54 ?_
            refine lv_iload_n hx0 hb d_Ln_givenBy_57 rfl (lv_at hl 2 rfl) ?_
            obtain ⟨hi5_11, h⟩ := chk_some h
            refine z_ialoadC (k := 4) hx0 hb hZ hi5_11 d_Ln_givenBy_58 ?_
            refine lv_goto (tgt := 68) hx0 hb d_Ln_givenBy_59 (by decide) ?_
            refine lv_istore_n (lv' := [(3, .int (M.1 4 (Int32.toNatClampNeg x3_5))), (5, .int (1 : Int32)), (4, .int x4_5), (0, .ref (G.1 1)), (2, .ref (G.1 a2))]) hx0 hb d_Ln_givenBy_68 rfl hl (by decide) rfl (fun ls hl => ?_)
            refine lv_iinc (v := (x4_5 + (1 : Int32))) (lv' := [(4, .int (x4_5 + (1 : Int32))), (3, .int (M.1 4 (Int32.toNatClampNeg x3_5))), (5, .int (1 : Int32)), (0, .ref (G.1 1)), (2, .ref (G.1 a2))]) hx0 hb d_Ln_givenBy_69 hl (k := 2) rfl rfl (by decide) rfl (fun ls hl => ?_)
            refine lv_goto (tgt := 5) hx0 hb d_Ln_givenBy_72 (by decide) ?_
            obtain rfl := Option.some.inj h
            exact hx _ _ _ hZ (lv_sub hl [0, 1, 3, 4] rfl)
  · replace hZ : ZZC G s M H locs := hZ
    replace hl : lv_has ls 6 [(3, .int q1.1), (0, .ref (G.1 1))] := hl
    refine lv_aload_n hx0 hb d_Ln_givenBy_75 rfl (lv_at hl 1 rfl) ?_
    refine fg_Ln_numberOf hx0 hb hts hown hZ d_Ln_givenBy_76 ?_
    refine lv_iload_n hx0 hb d_Ln_givenBy_79 rfl (lv_at hl 0 rfl) ?_
    obtain ⟨hi2, h⟩ := chk_some h
    refine z_ialoadC (k := 3) hx0 hb hZ hi2 d_Ln_givenBy_80 ?_
    obtain rfl := Option.some.inj h
    exact z_iretC hx0 hb hr hZ hlocks hQ d_Ln_givenBy_81
abbrev rm_Ln_sumFor : Room := ({ frames := 1, cells := 0, slots := 0, locals := 25 } : Room)
set_option maxHeartbeats 4000000 in
set_option maxRecDepth 100000 in
theorem c_Ln_sumFor (l : Launch) (G : zG) (a1 : Nat) (M : Mem) (r : Int32) (h : p_Ln_sumFor a1 M = some r) : MetZC l G y_Ln_sumFor (Cond.code y_Ln_sumFor b_Ln_sumFor 4 (some .int) :: zws) rm_Ln_sumFor [.ref (G.1 1), .ref (G.1 a1)] M (some (.int r)) M := by
  unfold p_Ln_sumFor at h
  refine z_ofWC (lv := [(0, .ref (G.1 1)), (1, .ref (G.1 a1))]) (by decide) (Nat.le_of_ble_eq_true rfl) rfl (fun p e R s m args below meth c Q ls F hl hZ => ?_)
  obtain ⟨hx0, hb, hml, hr, hts, hown, hlocks, rfl, hQ⟩ := F
  refine lv_iconst (v := (0 : Int32)) hx0 hb d_Ln_sumFor_0 (by decide) ?_
  refine lv_istore_n (lv' := [(2, .int (0 : Int32)), (0, .ref (G.1 1)), (1, .ref (G.1 a1))]) hx0 hb d_Ln_sumFor_1 rfl hl (by decide) rfl (fun ls hl => ?_)
  refine lv_iconst (v := (0 : Int32)) hx0 hb d_Ln_sumFor_2 (by decide) ?_
  refine lv_istore_n (lv' := [(3, .int (0 : Int32)), (2, .int (0 : Int32)), (0, .ref (G.1 1)), (1, .ref (G.1 a1))]) hx0 hb d_Ln_sumFor_3 rfl hl (by decide) rfl (fun ls hl => ?_)
  obtain ⟨q1, hq3, h⟩ := bnd_some h
  refine W_itr (At := fun (s0 : Int32 × Int32) => ∀ (H : Heap) (locs : List Loc) (ls : Array Slot), ZZC G s M H locs → lv_has ls 4 [(3, .int s0.2), (2, .int s0.1), (0, .ref (G.1 1)), (1, .ref (G.1 a1))] → W p l e rm_Ln_sumFor s m args below meth c H locs 0 0 Q (F0 m 4 ls [])) (Ex := fun (q0 : Int32 × Int32) => ∀ (H : Heap) (locs : List Loc) (ls : Array Slot), ZZC G s M H locs → lv_has ls 4 [(2, .int q0.1), (0, .ref (G.1 1)), (1, .ref (G.1 a1))] → W p l e rm_Ln_sumFor s m args below meth c H locs 0 0 Q (F0 m 32 ls [])) (fun s0 x h hx => ?_) _ _ q1 hq3 (fun H locs ls hZ hl => ?_) _ _ _ hZ (lv_sub hl [0, 1, 2, 3] rfl)
  · obtain ⟨x2_4, x3_4⟩ := s0
    replace h : p_Ln_sumFor_L4 a1 M x2_4 x3_4 = some x := h
    unfold p_Ln_sumFor_L4 at h
    intro H locs ls hZ hl
    replace hZ : ZZC G s M H locs := hZ
    replace hl : lv_has ls 4 [(3, .int x3_4), (2, .int x2_4), (0, .ref (G.1 1)), (1, .ref (G.1 a1))] := hl
    refine lv_iload_n hx0 hb d_Ln_sumFor_4 rfl (lv_at hl 0 rfl) ?_
    refine lv_aload_n hx0 hb d_Ln_sumFor_5 rfl (lv_at hl 2 rfl) ?_
    refine fg_Ln_rootCount hx0 hb hts hown hZ d_Ln_sumFor_6 ?_
    refine lv_icmp_ge (tgt := 32) hx0 hb d_Ln_sumFor_9 (by decide) (fun c4_1 => ?_) (fun c4_1 => ?_)
    · replace h := (if_pos c4_1).symm.trans h
      obtain rfl := Option.some.inj h
      exact hx _ _ _ hZ (lv_sub hl [1, 2, 3] rfl)
    · replace h := (if_neg c4_1).symm.trans h
      refine lv_iload_n hx0 hb d_Ln_sumFor_12 rfl (lv_at hl 1 rfl) ?_
      refine lv_aload_n hx0 hb d_Ln_sumFor_13 rfl (lv_at hl 2 rfl) ?_
      refine lv_aload_n hx0 hb d_Ln_sumFor_14 rfl (lv_at hl 2 rfl) ?_
      refine fg_Ln_roots hx0 hb hts hown hZ d_Ln_sumFor_15 ?_
      refine lv_iload_n hx0 hb d_Ln_sumFor_18 rfl (lv_at hl 0 rfl) ?_
      obtain ⟨hi4_2, h⟩ := chk_some h
      refine z_ialoadC (k := 7) hx0 hb hZ hi4_2 d_Ln_sumFor_19 ?_
      refine lv_aload_n hx0 hb d_Ln_sumFor_20 rfl (lv_at hl 3 rfl) ?_
      obtain ⟨q4_3, hc4_4, h⟩ := bnd_some h
      refine k_Ln_Ln_givenBy [.int (M.1 7 (Int32.toNatClampNeg x3_4)), .ref (G.1 a1)] hx0 hb hml hts hown (c_Ln_givenBy l G (M.1 7 (Int32.toNatClampNeg x3_4)) a1 M q4_3 hc4_4) hZ rfl rfl ⟨Nat.le_of_ble_eq_true rfl, Nat.le_of_ble_eq_true rfl⟩ hl.1 rfl (Nat.le_of_ble_eq_true rfl) d_Ln_sumFor_21 (fun H locs hZ => ?_)
      refine lv_iadd hx0 hb d_Ln_sumFor_24 ?_
      refine lv_istore_n (lv' := [(2, .int (x2_4 + q4_3)), (3, .int x3_4), (0, .ref (G.1 1)), (1, .ref (G.1 a1))]) hx0 hb d_Ln_sumFor_25 rfl hl (by decide) rfl (fun ls hl => ?_)
      refine lv_iinc (v := (x3_4 + (1 : Int32))) (lv' := [(3, .int (x3_4 + (1 : Int32))), (2, .int (x2_4 + q4_3)), (0, .ref (G.1 1)), (1, .ref (G.1 a1))]) hx0 hb d_Ln_sumFor_26 hl (k := 1) rfl rfl (by decide) rfl (fun ls hl => ?_)
      refine lv_goto (tgt := 4) hx0 hb d_Ln_sumFor_29 (by decide) ?_
      obtain rfl := Option.some.inj h
      exact hx _ _ _ hZ (lv_sub hl [0, 1, 2, 3] rfl)
  · replace hZ : ZZC G s M H locs := hZ
    replace hl : lv_has ls 4 [(2, .int q1.1), (0, .ref (G.1 1)), (1, .ref (G.1 a1))] := hl
    refine lv_iconst (v := (0 : Int32)) hx0 hb d_Ln_sumFor_32 (by decide) ?_
    refine lv_istore_n (lv' := [(3, .int (0 : Int32)), (2, .int q1.1), (0, .ref (G.1 1)), (1, .ref (G.1 a1))]) hx0 hb d_Ln_sumFor_33 rfl hl (by decide) rfl (fun ls hl => ?_)
    obtain ⟨q2, hq4, h⟩ := bnd_some h
    refine W_itr (At := fun (s0 : Int32 × Int32) => ∀ (H : Heap) (locs : List Loc) (ls : Array Slot), ZZC G s M H locs → lv_has ls 4 [(3, .int s0.2), (2, .int s0.1), (0, .ref (G.1 1)), (1, .ref (G.1 a1))] → W p l e rm_Ln_sumFor s m args below meth c H locs 0 0 Q (F0 m 34 ls [])) (Ex := fun (q0 : Int32 × Int32) => ∀ (H : Heap) (locs : List Loc) (ls : Array Slot), ZZC G s M H locs → lv_has ls 4 [(2, .int q0.1)] → W p l e rm_Ln_sumFor s m args below meth c H locs 0 0 Q (F0 m 59 ls [])) (fun s0 x h hx => ?_) _ _ q2 hq4 (fun H locs ls hZ hl => ?_) _ _ _ hZ (lv_sub hl [0, 1, 2, 3] rfl)
    · obtain ⟨x2_34, x3_34⟩ := s0
      replace h : p_Ln_sumFor_L34 a1 M x2_34 x3_34 = some x := h
      unfold p_Ln_sumFor_L34 at h
      intro H locs ls hZ hl
      replace hZ : ZZC G s M H locs := hZ
      replace hl : lv_has ls 4 [(3, .int x3_34), (2, .int x2_34), (0, .ref (G.1 1)), (1, .ref (G.1 a1))] := hl
      refine lv_iload_n hx0 hb d_Ln_sumFor_34 rfl (lv_at hl 0 rfl) ?_
      refine lv_bipush (v := (6 : Int32)) hx0 hb d_Ln_sumFor_35 (by decide) ?_
      refine lv_icmp_ge (tgt := 59) hx0 hb d_Ln_sumFor_37 (by decide) (fun c34_1 => ?_) (fun c34_1 => ?_)
      · replace h := (if_pos c34_1).symm.trans h
        obtain rfl := Option.some.inj h
        exact hx _ _ _ hZ (lv_sub hl [1] rfl)
      · replace h := (if_neg c34_1).symm.trans h
        refine lv_iload_n hx0 hb d_Ln_sumFor_40 rfl (lv_at hl 1 rfl) ?_
        refine lv_aload_n hx0 hb d_Ln_sumFor_41 rfl (lv_at hl 2 rfl) ?_
        refine fg_Ln_weights hx0 hb hts hown hZ d_Ln_sumFor_42 ?_
        refine lv_iload_n hx0 hb d_Ln_sumFor_45 rfl (lv_at hl 0 rfl) ?_
        obtain ⟨hi34_2, h⟩ := chk_some h
        refine z_ialoadC (k := 8) hx0 hb hZ hi34_2 d_Ln_sumFor_46 ?_
        refine lv_aload_n hx0 hb d_Ln_sumFor_47 rfl (lv_at hl 3 rfl) ?_
        refine lv_iload_n hx0 hb d_Ln_sumFor_48 rfl (lv_at hl 0 rfl) ?_
        obtain ⟨hi34_3, h⟩ := chk_some h
        refine z_ialoadC (k := a1) hx0 hb hZ hi34_3 d_Ln_sumFor_49 ?_
        refine lv_imul hx0 hb d_Ln_sumFor_50 ?_
        refine lv_iadd hx0 hb d_Ln_sumFor_51 ?_
        refine lv_istore_n (lv' := [(2, .int (x2_34 + ((M.1 8 (Int32.toNatClampNeg x3_34)) * (M.1 a1 (Int32.toNatClampNeg x3_34))))), (3, .int x3_34), (0, .ref (G.1 1)), (1, .ref (G.1 a1))]) hx0 hb d_Ln_sumFor_52 rfl hl (by decide) rfl (fun ls hl => ?_)
        refine lv_iinc (v := (x3_34 + (1 : Int32))) (lv' := [(3, .int (x3_34 + (1 : Int32))), (2, .int (x2_34 + ((M.1 8 (Int32.toNatClampNeg x3_34)) * (M.1 a1 (Int32.toNatClampNeg x3_34))))), (0, .ref (G.1 1)), (1, .ref (G.1 a1))]) hx0 hb d_Ln_sumFor_53 hl (k := 1) rfl rfl (by decide) rfl (fun ls hl => ?_)
        refine lv_goto (tgt := 34) hx0 hb d_Ln_sumFor_56 (by decide) ?_
        obtain rfl := Option.some.inj h
        exact hx _ _ _ hZ (lv_sub hl [0, 1, 2, 3] rfl)
    · replace hZ : ZZC G s M H locs := hZ
      replace hl : lv_has ls 4 [(2, .int q2.1)] := hl
      refine lv_iload_n hx0 hb d_Ln_sumFor_59 rfl (lv_at hl 0 rfl) ?_
      obtain rfl := Option.some.inj h
      exact z_iretC hx0 hb hr hZ hlocks hQ d_Ln_sumFor_60
abbrev rm_Ln_peakOf : Room := ({ frames := 1, cells := 0, slots := 0, locals := 32 } : Room)
set_option maxHeartbeats 4000000 in
set_option maxRecDepth 100000 in
theorem c_Ln_peakOf (l : Launch) (G : zG) (a1 : Int32) (a2 : Nat) (a3 : Nat) (M : Mem) (r : Int32) (h : p_Ln_peakOf a1 a2 a3 M = some r) : MetZC l G y_Ln_peakOf (Cond.code y_Ln_peakOf b_Ln_peakOf 5 (some .int) :: zws) rm_Ln_peakOf [.ref (G.1 1), .int a1, .ref (G.1 a2), .ref (G.1 a3)] M (some (.int r)) M := by
  unfold p_Ln_peakOf at h
  refine z_ofWC (lv := [(0, .ref (G.1 1)), (1, .int a1), (2, .ref (G.1 a2)), (3, .ref (G.1 a3))]) (by decide) (Nat.le_of_ble_eq_true rfl) rfl (fun p e R s m args below meth c Q ls F hl hZ => ?_)
  obtain ⟨hx0, hb, hml, hr, hts, hown, hlocks, rfl, hQ⟩ := F
  refine lv_aload_n hx0 hb d_Ln_peakOf_0 rfl (lv_at hl 0 rfl) ?_
  refine fg_Ln_columnOf hx0 hb hts hown hZ d_Ln_peakOf_1 ?_
  refine lv_iload_n hx0 hb d_Ln_peakOf_4 rfl (lv_at hl 1 rfl) ?_
  obtain ⟨hi1, h⟩ := chk_some h
  refine z_ialoadC (k := 2) hx0 hb hZ hi1 d_Ln_peakOf_5 ?_
  refine lv_istore (lv' := [(4, .int (M.1 2 (Int32.toNatClampNeg a1))), (0, .ref (G.1 1)), (1, .int a1), (2, .ref (G.1 a2)), (3, .ref (G.1 a3))]) hx0 hb d_Ln_peakOf_6 hl (by decide) rfl (fun ls hl => ?_)
  refine lv_iload hx0 hb d_Ln_peakOf_8 (lv_at hl 0 rfl) ?_
  refine lv_iconst (v := (-1 : Int32)) hx0 hb d_Ln_peakOf_10 (by decide) ?_
  refine lv_icmp_ne (tgt := 21) hx0 hb d_Ln_peakOf_11 (by decide) (fun c2 => ?_) (fun c2 => ?_)
  · replace h := (if_neg c2).symm.trans h
    refine lv_aload_n hx0 hb d_Ln_peakOf_21 rfl (lv_at hl 4 rfl) ?_
    refine lv_iload hx0 hb d_Ln_peakOf_22 (lv_at hl 0 rfl) ?_
    obtain ⟨hi3, h⟩ := chk_some h
    refine z_ialoadC (k := a3) hx0 hb hZ hi3 d_Ln_peakOf_24 ?_
    refine lv_aload_n hx0 hb d_Ln_peakOf_25 rfl (lv_at hl 1 rfl) ?_
    refine fg_Ln_numberOf hx0 hb hts hown hZ d_Ln_peakOf_26 ?_
    refine lv_iload_n hx0 hb d_Ln_peakOf_29 rfl (lv_at hl 2 rfl) ?_
    obtain ⟨hi4, h⟩ := chk_some h
    refine z_ialoadC (k := 3) hx0 hb hZ hi4 d_Ln_peakOf_30 ?_
    refine lv_icmp_gt (tgt := 46) hx0 hb d_Ln_peakOf_31 (by decide) (fun c5 => ?_) (fun c5 => ?_)
    · replace h := (if_pos c5).symm.trans h
      refine lv_aload_n hx0 hb d_Ln_peakOf_46 rfl (lv_at hl 3 rfl) ?_
      refine lv_iload hx0 hb d_Ln_peakOf_47 (lv_at hl 0 rfl) ?_
      obtain ⟨hi6, h⟩ := chk_some h
      refine z_ialoadC (k := a2) hx0 hb hZ hi6 d_Ln_peakOf_49 ?_
      refine lv_aload_n hx0 hb d_Ln_peakOf_50 rfl (lv_at hl 1 rfl) ?_
      refine fg_Ln_numberOf hx0 hb hts hown hZ d_Ln_peakOf_51 ?_
      refine lv_iload_n hx0 hb d_Ln_peakOf_54 rfl (lv_at hl 2 rfl) ?_
      obtain ⟨hi7, h⟩ := chk_some h
      refine z_ialoadC (k := 3) hx0 hb hZ hi7 d_Ln_peakOf_55 ?_
      refine lv_icmp_le (tgt := 71) hx0 hb d_Ln_peakOf_56 (by decide) (fun c8 => ?_) (fun c8 => ?_)
      · replace h := (if_pos c8).symm.trans h
        refine lv_aload_n hx0 hb d_Ln_peakOf_71 rfl (lv_at hl 1 rfl) ?_
        refine fg_Ln_peaks hx0 hb hts hown hZ d_Ln_peakOf_72 ?_
        refine lv_aload_n hx0 hb d_Ln_peakOf_75 rfl (lv_at hl 1 rfl) ?_
        refine fg_Ln_lowOf hx0 hb hts hown hZ d_Ln_peakOf_76 ?_
        refine lv_iload_n hx0 hb d_Ln_peakOf_79 rfl (lv_at hl 2 rfl) ?_
        obtain ⟨hi9, h⟩ := chk_some h
        refine z_ialoadC (k := 4) hx0 hb hZ hi9 d_Ln_peakOf_80 ?_
        obtain ⟨hi10, h⟩ := chk_some h
        refine z_ialoadC (k := 6) hx0 hb hZ hi10 d_Ln_peakOf_81 ?_
        refine lv_aload_n hx0 hb d_Ln_peakOf_82 rfl (lv_at hl 1 rfl) ?_
        refine fg_Ln_peaks hx0 hb hts hown hZ d_Ln_peakOf_83 ?_
        refine lv_aload_n hx0 hb d_Ln_peakOf_86 rfl (lv_at hl 1 rfl) ?_
        refine fg_Ln_highOf hx0 hb hts hown hZ d_Ln_peakOf_87 ?_
        refine lv_iload_n hx0 hb d_Ln_peakOf_90 rfl (lv_at hl 2 rfl) ?_
        obtain ⟨hi11, h⟩ := chk_some h
        refine z_ialoadC (k := 5) hx0 hb hZ hi11 d_Ln_peakOf_91 ?_
        obtain ⟨hi12, h⟩ := chk_some h
        refine z_ialoadC (k := 6) hx0 hb hZ hi12 d_Ln_peakOf_92 ?_
        refine m_max_Ln hx0 hb hml hts hown hl ⟨Nat.le_of_ble_eq_true rfl, Nat.le_of_ble_eq_true rfl⟩ (Nat.le_of_ble_eq_true rfl) d_Ln_peakOf_93 ?_
        obtain rfl := Option.some.inj h
        exact z_iretC hx0 hb hr hZ hlocks hQ d_Ln_peakOf_96
      · replace h := (if_neg c8).symm.trans h
        refine lv_aload_n hx0 hb d_Ln_peakOf_59 rfl (lv_at hl 1 rfl) ?_
        refine fg_Ln_peaks hx0 hb hts hown hZ d_Ln_peakOf_60 ?_
        refine lv_aload_n hx0 hb d_Ln_peakOf_63 rfl (lv_at hl 1 rfl) ?_
        refine fg_Ln_highOf hx0 hb hts hown hZ d_Ln_peakOf_64 ?_
        refine lv_iload_n hx0 hb d_Ln_peakOf_67 rfl (lv_at hl 2 rfl) ?_
        obtain ⟨hi13, h⟩ := chk_some h
        refine z_ialoadC (k := 5) hx0 hb hZ hi13 d_Ln_peakOf_68 ?_
        obtain ⟨hi14, h⟩ := chk_some h
        refine z_ialoadC (k := 6) hx0 hb hZ hi14 d_Ln_peakOf_69 ?_
        obtain rfl := Option.some.inj h
        exact z_iretC hx0 hb hr hZ hlocks hQ d_Ln_peakOf_70
    · replace h := (if_neg c5).symm.trans h
      refine lv_aload_n hx0 hb d_Ln_peakOf_34 rfl (lv_at hl 1 rfl) ?_
      refine fg_Ln_peaks hx0 hb hts hown hZ d_Ln_peakOf_35 ?_
      refine lv_aload_n hx0 hb d_Ln_peakOf_38 rfl (lv_at hl 1 rfl) ?_
      refine fg_Ln_lowOf hx0 hb hts hown hZ d_Ln_peakOf_39 ?_
      refine lv_iload_n hx0 hb d_Ln_peakOf_42 rfl (lv_at hl 2 rfl) ?_
      obtain ⟨hi15, h⟩ := chk_some h
      refine z_ialoadC (k := 4) hx0 hb hZ hi15 d_Ln_peakOf_43 ?_
      obtain ⟨hi16, h⟩ := chk_some h
      refine z_ialoadC (k := 6) hx0 hb hZ hi16 d_Ln_peakOf_44 ?_
      obtain rfl := Option.some.inj h
      exact z_iretC hx0 hb hr hZ hlocks hQ d_Ln_peakOf_45
  · replace h := (if_pos c2).symm.trans h
    refine lv_aload_n hx0 hb d_Ln_peakOf_14 rfl (lv_at hl 1 rfl) ?_
    refine fg_Ln_numberOf hx0 hb hts hown hZ d_Ln_peakOf_15 ?_
    refine lv_iload_n hx0 hb d_Ln_peakOf_18 rfl (lv_at hl 2 rfl) ?_
    obtain ⟨hi17, h⟩ := chk_some h
    refine z_ialoadC (k := 3) hx0 hb hZ hi17 d_Ln_peakOf_19 ?_
    obtain rfl := Option.some.inj h
    exact z_iretC hx0 hb hr hZ hlocks hQ d_Ln_peakOf_20
abbrev rm_Ln_boundWithin : Room := ({ frames := 2, cells := 0, slots := 0, locals := 56 } : Room)
set_option maxHeartbeats 4000000 in
set_option maxRecDepth 100000 in
theorem c_Ln_boundWithin (l : Launch) (G : zG) (a1 : Nat) (a2 : Nat) (M : Mem) (r : Int32 × Mem) (h : p_Ln_boundWithin a1 a2 M = some r) : MetZC l G y_Ln_boundWithin (Cond.code y_Ln_boundWithin b_Ln_boundWithin 5 (some .int) :: zws) rm_Ln_boundWithin [.ref (G.1 1), .ref (G.1 a1), .ref (G.1 a2)] M (some (.int r.1)) r.2 := by
  unfold p_Ln_boundWithin at h
  refine z_ofWC (lv := [(0, .ref (G.1 1)), (1, .ref (G.1 a1)), (2, .ref (G.1 a2))]) (by decide) (Nat.le_of_ble_eq_true rfl) rfl (fun p e R s m args below meth c Q ls F hl hZ => ?_)
  obtain ⟨hx0, hb, hml, hr, hts, hown, hlocks, rfl, hQ⟩ := F
  refine lv_iconst (v := (0 : Int32)) hx0 hb d_Ln_boundWithin_0 (by decide) ?_
  refine lv_istore_n (lv' := [(3, .int (0 : Int32)), (0, .ref (G.1 1)), (1, .ref (G.1 a1)), (2, .ref (G.1 a2))]) hx0 hb d_Ln_boundWithin_1 rfl hl (by decide) rfl (fun ls hl => ?_)
  obtain ⟨q1, hq4, h⟩ := bnd_some h
  refine W_itr (At := fun (s0 : Int32 × Mem) => ∀ (H : Heap) (locs : List Loc) (ls : Array Slot), ZZC G s s0.2 H locs → lv_has ls 5 [(3, .int s0.1), (0, .ref (G.1 1)), (1, .ref (G.1 a1)), (2, .ref (G.1 a2))] → W p l e rm_Ln_boundWithin s m args below meth c H locs 0 0 Q (F0 m 2 ls [])) (Ex := fun (q0 : Int32 × Mem) => ∀ (H : Heap) (locs : List Loc) (ls : Array Slot), ZZC G s q0.2 H locs → lv_has ls 5 [(0, .ref (G.1 1)), (1, .ref (G.1 a1)), (2, .ref (G.1 a2))] → W p l e rm_Ln_boundWithin s m args below meth c H locs 0 0 Q (F0 m 29 ls [])) (fun s0 x h hx => ?_) _ _ q1 hq4 (fun H locs ls hZ hl => ?_) _ _ _ hZ (lv_sub hl [0, 1, 2, 3] rfl)
  · obtain ⟨x3_2, M_2⟩ := s0
    replace h : p_Ln_boundWithin_L2 a1 a2 x3_2 M_2 = some x := h
    unfold p_Ln_boundWithin_L2 at h
    intro H locs ls hZ hl
    replace hZ : ZZC G s M_2 H locs := hZ
    replace hl : lv_has ls 5 [(3, .int x3_2), (0, .ref (G.1 1)), (1, .ref (G.1 a1)), (2, .ref (G.1 a2))] := hl
    refine lv_iload_n hx0 hb d_Ln_boundWithin_2 rfl (lv_at hl 0 rfl) ?_
    refine lv_aload_n hx0 hb d_Ln_boundWithin_3 rfl (lv_at hl 1 rfl) ?_
    refine fg_Ln_nodeCount hx0 hb hts hown hZ d_Ln_boundWithin_4 ?_
    refine lv_icmp_ge (tgt := 29) hx0 hb d_Ln_boundWithin_7 (by decide) (fun c2_1 => ?_) (fun c2_1 => ?_)
    · replace h := (if_pos c2_1).symm.trans h
      obtain rfl := Option.some.inj h
      exact hx _ _ _ hZ (lv_sub hl [1, 2, 3] rfl)
    · replace h := (if_neg c2_1).symm.trans h
      refine lv_aload_n hx0 hb d_Ln_boundWithin_10 rfl (lv_at hl 1 rfl) ?_
      refine fg_Ln_peaks hx0 hb hts hown hZ d_Ln_boundWithin_11 ?_
      refine lv_iload_n hx0 hb d_Ln_boundWithin_14 rfl (lv_at hl 0 rfl) ?_
      refine lv_aload_n hx0 hb d_Ln_boundWithin_15 rfl (lv_at hl 1 rfl) ?_
      refine lv_iload_n hx0 hb d_Ln_boundWithin_16 rfl (lv_at hl 0 rfl) ?_
      refine lv_aload_n hx0 hb d_Ln_boundWithin_17 rfl (lv_at hl 2 rfl) ?_
      refine lv_aload_n hx0 hb d_Ln_boundWithin_18 rfl (lv_at hl 3 rfl) ?_
      obtain ⟨q2_2, hc2_5, h⟩ := bnd_some h
      refine k_Ln_Ln_peakOf [.int x3_2, .ref (G.1 a1), .ref (G.1 a2)] hx0 hb hml hts hown (c_Ln_peakOf l G x3_2 a1 a2 M_2 q2_2 hc2_5) hZ rfl rfl ⟨Nat.le_of_ble_eq_true rfl, Nat.le_of_ble_eq_true rfl⟩ hl.1 rfl (Nat.le_of_ble_eq_true rfl) d_Ln_boundWithin_19 (fun H locs hZ => ?_)
      obtain ⟨hi2_3, h⟩ := chk_some h
      refine z_iastoreC (k := 6) hx0 hb hZ hi2_3 d_Ln_boundWithin_22 (fun H locs hZ => ?_)
      obtain ⟨m2_4, em2_4, h⟩ := nm_some h
      rw [em2_4] at hZ
      refine lv_iinc (v := (x3_2 + (1 : Int32))) (lv' := [(3, .int (x3_2 + (1 : Int32))), (0, .ref (G.1 1)), (1, .ref (G.1 a1)), (2, .ref (G.1 a2))]) hx0 hb d_Ln_boundWithin_23 hl (k := 0) rfl rfl (by decide) rfl (fun ls hl => ?_)
      refine lv_goto (tgt := 2) hx0 hb d_Ln_boundWithin_26 (by decide) ?_
      obtain rfl := Option.some.inj h
      exact hx _ _ _ hZ (lv_sub hl [0, 1, 2, 3] rfl)
  · replace hZ : ZZC G s q1.2 H locs := hZ
    replace hl : lv_has ls 5 [(0, .ref (G.1 1)), (1, .ref (G.1 a1)), (2, .ref (G.1 a2))] := hl
    refine lv_iconst (v := (0 : Int32)) hx0 hb d_Ln_boundWithin_29 (by decide) ?_
    refine lv_istore_n (lv' := [(3, .int (0 : Int32)), (0, .ref (G.1 1)), (1, .ref (G.1 a1)), (2, .ref (G.1 a2))]) hx0 hb d_Ln_boundWithin_30 rfl hl (by decide) rfl (fun ls hl => ?_)
    refine lv_iconst (v := (0 : Int32)) hx0 hb d_Ln_boundWithin_31 (by decide) ?_
    refine lv_istore (lv' := [(4, .int (0 : Int32)), (3, .int (0 : Int32)), (0, .ref (G.1 1)), (1, .ref (G.1 a1)), (2, .ref (G.1 a2))]) hx0 hb d_Ln_boundWithin_32 hl (by decide) rfl (fun ls hl => ?_)
    obtain ⟨q2, hq5, h⟩ := bnd_some h
    refine W_itr (At := fun (s0 : Int32 × Int32) => ∀ (H : Heap) (locs : List Loc) (ls : Array Slot), ZZC G s q1.2 H locs → lv_has ls 5 [(4, .int s0.2), (3, .int s0.1), (0, .ref (G.1 1)), (1, .ref (G.1 a1)), (2, .ref (G.1 a2))] → W p l e rm_Ln_boundWithin s m args below meth c H locs 0 0 Q (F0 m 34 ls [])) (Ex := fun (q0 : Int32 × Int32) => ∀ (H : Heap) (locs : List Loc) (ls : Array Slot), ZZC G s q1.2 H locs → lv_has ls 5 [(3, .int q0.1), (0, .ref (G.1 1)), (1, .ref (G.1 a1)), (2, .ref (G.1 a2))] → W p l e rm_Ln_boundWithin s m args below meth c H locs 0 0 Q (F0 m 64 ls [])) (fun s0 x h hx => ?_) _ _ q2 hq5 (fun H locs ls hZ hl => ?_) _ _ _ hZ (lv_sub hl [0, 1, 2, 3, 4] rfl)
    · obtain ⟨x3_34, x4_34⟩ := s0
      replace h : p_Ln_boundWithin_L34 q1 x3_34 x4_34 = some x := h
      unfold p_Ln_boundWithin_L34 at h
      intro H locs ls hZ hl
      replace hZ : ZZC G s q1.2 H locs := hZ
      replace hl : lv_has ls 5 [(4, .int x4_34), (3, .int x3_34), (0, .ref (G.1 1)), (1, .ref (G.1 a1)), (2, .ref (G.1 a2))] := hl
      refine lv_iload hx0 hb d_Ln_boundWithin_34 (lv_at hl 0 rfl) ?_
      refine lv_aload_n hx0 hb d_Ln_boundWithin_36 rfl (lv_at hl 2 rfl) ?_
      refine fg_Ln_rootCount hx0 hb hts hown hZ d_Ln_boundWithin_37 ?_
      refine lv_icmp_ge (tgt := 64) hx0 hb d_Ln_boundWithin_40 (by decide) (fun c34_1 => ?_) (fun c34_1 => ?_)
      · replace h := (if_pos c34_1).symm.trans h
        obtain rfl := Option.some.inj h
        exact hx _ _ _ hZ (lv_sub hl [1, 2, 3, 4] rfl)
      · replace h := (if_neg c34_1).symm.trans h
        refine lv_iload_n hx0 hb d_Ln_boundWithin_43 rfl (lv_at hl 1 rfl) ?_
        refine lv_aload_n hx0 hb d_Ln_boundWithin_44 rfl (lv_at hl 2 rfl) ?_
        refine fg_Ln_peaks hx0 hb hts hown hZ d_Ln_boundWithin_45 ?_
        refine lv_aload_n hx0 hb d_Ln_boundWithin_48 rfl (lv_at hl 2 rfl) ?_
        refine fg_Ln_roots hx0 hb hts hown hZ d_Ln_boundWithin_49 ?_
        refine lv_iload hx0 hb d_Ln_boundWithin_52 (lv_at hl 0 rfl) ?_
        obtain ⟨hi34_2, h⟩ := chk_some h
        refine z_ialoadC (k := 7) hx0 hb hZ hi34_2 d_Ln_boundWithin_54 ?_
        obtain ⟨hi34_3, h⟩ := chk_some h
        refine z_ialoadC (k := 6) hx0 hb hZ hi34_3 d_Ln_boundWithin_55 ?_
        refine lv_iadd hx0 hb d_Ln_boundWithin_56 ?_
        refine lv_istore_n (lv' := [(3, .int (x3_34 + (q1.2.1 6 (Int32.toNatClampNeg (q1.2.1 7 (Int32.toNatClampNeg x4_34)))))), (4, .int x4_34), (0, .ref (G.1 1)), (1, .ref (G.1 a1)), (2, .ref (G.1 a2))]) hx0 hb d_Ln_boundWithin_57 rfl hl (by decide) rfl (fun ls hl => ?_)
        refine lv_iinc (v := (x4_34 + (1 : Int32))) (lv' := [(4, .int (x4_34 + (1 : Int32))), (3, .int (x3_34 + (q1.2.1 6 (Int32.toNatClampNeg (q1.2.1 7 (Int32.toNatClampNeg x4_34)))))), (0, .ref (G.1 1)), (1, .ref (G.1 a1)), (2, .ref (G.1 a2))]) hx0 hb d_Ln_boundWithin_58 hl (k := 1) rfl rfl (by decide) rfl (fun ls hl => ?_)
        refine lv_goto (tgt := 34) hx0 hb d_Ln_boundWithin_61 (by decide) ?_
        obtain rfl := Option.some.inj h
        exact hx _ _ _ hZ (lv_sub hl [0, 1, 2, 3, 4] rfl)
    · replace hZ : ZZC G s q1.2 H locs := hZ
      replace hl : lv_has ls 5 [(3, .int q2.1), (0, .ref (G.1 1)), (1, .ref (G.1 a1)), (2, .ref (G.1 a2))] := hl
      refine lv_iconst (v := (0 : Int32)) hx0 hb d_Ln_boundWithin_64 (by decide) ?_
      refine lv_istore (lv' := [(4, .int (0 : Int32)), (3, .int q2.1), (0, .ref (G.1 1)), (1, .ref (G.1 a1)), (2, .ref (G.1 a2))]) hx0 hb d_Ln_boundWithin_65 hl (by decide) rfl (fun ls hl => ?_)
      obtain ⟨q3, hq6, h⟩ := bnd_some h
      refine W_itr (At := fun (s0 : Int32 × Int32) => ∀ (H : Heap) (locs : List Loc) (ls : Array Slot), ZZC G s q1.2 H locs → lv_has ls 5 [(4, .int s0.2), (3, .int s0.1), (0, .ref (G.1 1)), (1, .ref (G.1 a1)), (2, .ref (G.1 a2))] → W p l e rm_Ln_boundWithin s m args below meth c H locs 0 0 Q (F0 m 67 ls [])) (Ex := fun (q0 : Int32 × Int32) => ∀ (H : Heap) (locs : List Loc) (ls : Array Slot), ZZC G s q1.2 H locs → lv_has ls 5 [(3, .int q0.1)] → W p l e rm_Ln_boundWithin s m args below meth c H locs 0 0 Q (F0 m 110 ls [])) (fun s0 x h hx => ?_) _ _ q3 hq6 (fun H locs ls hZ hl => ?_) _ _ _ hZ (lv_sub hl [0, 1, 2, 3, 4] rfl)
      · obtain ⟨x3_67, x4_67⟩ := s0
        replace h : p_Ln_boundWithin_L67 a1 a2 q1 x3_67 x4_67 = some x := h
        unfold p_Ln_boundWithin_L67 at h
        intro H locs ls hZ hl
        replace hZ : ZZC G s q1.2 H locs := hZ
        replace hl : lv_has ls 5 [(4, .int x4_67), (3, .int x3_67), (0, .ref (G.1 1)), (1, .ref (G.1 a1)), (2, .ref (G.1 a2))] := hl
        refine lv_iload hx0 hb d_Ln_boundWithin_67 (lv_at hl 0 rfl) ?_
        refine lv_bipush (v := (6 : Int32)) hx0 hb d_Ln_boundWithin_69 (by decide) ?_
        refine lv_icmp_ge (tgt := 110) hx0 hb d_Ln_boundWithin_71 (by decide) (fun c67_1 => ?_) (fun c67_1 => ?_)
        · replace h := (if_pos c67_1).symm.trans h
          obtain rfl := Option.some.inj h
          exact hx _ _ _ hZ (lv_sub hl [1] rfl)
        · replace h := (if_neg c67_1).symm.trans h
          refine lv_iload_n hx0 hb d_Ln_boundWithin_74 rfl (lv_at hl 1 rfl) ?_
          refine lv_aload_n hx0 hb d_Ln_boundWithin_75 rfl (lv_at hl 2 rfl) ?_
          refine fg_Ln_weights hx0 hb hts hown hZ d_Ln_boundWithin_76 ?_
          refine lv_iload hx0 hb d_Ln_boundWithin_79 (lv_at hl 0 rfl) ?_
          obtain ⟨hi67_2, h⟩ := chk_some h
          refine z_ialoadC (k := 8) hx0 hb hZ hi67_2 d_Ln_boundWithin_81 ?_
          refine lv_aload_n hx0 hb d_Ln_boundWithin_82 rfl (lv_at hl 3 rfl) ?_
          refine lv_iload hx0 hb d_Ln_boundWithin_83 (lv_at hl 0 rfl) ?_
          obtain ⟨hi67_3, h⟩ := chk_some h
          refine z_ialoadC (k := a1) hx0 hb hZ hi67_3 d_Ln_boundWithin_85 ?_
          refine lv_imul hx0 hb d_Ln_boundWithin_86 ?_
          refine lv_aload_n hx0 hb d_Ln_boundWithin_87 rfl (lv_at hl 2 rfl) ?_
          refine fg_Ln_weights hx0 hb hts hown hZ d_Ln_boundWithin_88 ?_
          refine lv_iload hx0 hb d_Ln_boundWithin_91 (lv_at hl 0 rfl) ?_
          obtain ⟨hi67_4, h⟩ := chk_some h
          refine z_ialoadC (k := 8) hx0 hb hZ hi67_4 d_Ln_boundWithin_93 ?_
          refine lv_aload_n hx0 hb d_Ln_boundWithin_94 rfl (lv_at hl 4 rfl) ?_
          refine lv_iload hx0 hb d_Ln_boundWithin_95 (lv_at hl 0 rfl) ?_
          obtain ⟨hi67_5, h⟩ := chk_some h
          refine z_ialoadC (k := a2) hx0 hb hZ hi67_5 d_Ln_boundWithin_97 ?_
          refine lv_imul hx0 hb d_Ln_boundWithin_98 ?_
          refine m_max_Ln hx0 hb hml hts hown hl ⟨Nat.le_of_ble_eq_true rfl, Nat.le_of_ble_eq_true rfl⟩ (Nat.le_of_ble_eq_true rfl) d_Ln_boundWithin_99 ?_
          refine lv_iadd hx0 hb d_Ln_boundWithin_102 ?_
          refine lv_istore_n (lv' := [(3, .int (x3_67 + (if ((q1.2.1 8 (Int32.toNatClampNeg x4_67)) * (q1.2.1 a1 (Int32.toNatClampNeg x4_67))) < ((q1.2.1 8 (Int32.toNatClampNeg x4_67)) * (q1.2.1 a2 (Int32.toNatClampNeg x4_67))) then ((q1.2.1 8 (Int32.toNatClampNeg x4_67)) * (q1.2.1 a2 (Int32.toNatClampNeg x4_67))) else ((q1.2.1 8 (Int32.toNatClampNeg x4_67)) * (q1.2.1 a1 (Int32.toNatClampNeg x4_67)))))), (4, .int x4_67), (0, .ref (G.1 1)), (1, .ref (G.1 a1)), (2, .ref (G.1 a2))]) hx0 hb d_Ln_boundWithin_103 rfl hl (by decide) rfl (fun ls hl => ?_)
          refine lv_iinc (v := (x4_67 + (1 : Int32))) (lv' := [(4, .int (x4_67 + (1 : Int32))), (3, .int (x3_67 + (if ((q1.2.1 8 (Int32.toNatClampNeg x4_67)) * (q1.2.1 a1 (Int32.toNatClampNeg x4_67))) < ((q1.2.1 8 (Int32.toNatClampNeg x4_67)) * (q1.2.1 a2 (Int32.toNatClampNeg x4_67))) then ((q1.2.1 8 (Int32.toNatClampNeg x4_67)) * (q1.2.1 a2 (Int32.toNatClampNeg x4_67))) else ((q1.2.1 8 (Int32.toNatClampNeg x4_67)) * (q1.2.1 a1 (Int32.toNatClampNeg x4_67)))))), (0, .ref (G.1 1)), (1, .ref (G.1 a1)), (2, .ref (G.1 a2))]) hx0 hb d_Ln_boundWithin_104 hl (k := 1) rfl rfl (by decide) rfl (fun ls hl => ?_)
          refine lv_goto (tgt := 67) hx0 hb d_Ln_boundWithin_107 (by decide) ?_
          obtain rfl := Option.some.inj h
          exact hx _ _ _ hZ (lv_sub hl [0, 1, 2, 3, 4] rfl)
      · replace hZ : ZZC G s q1.2 H locs := hZ
        replace hl : lv_has ls 5 [(3, .int q3.1)] := hl
        refine lv_iload_n hx0 hb d_Ln_boundWithin_110 rfl (lv_at hl 0 rfl) ?_
        obtain rfl := Option.some.inj h
        exact z_iretC hx0 hb hr hZ hlocks hQ d_Ln_boundWithin_111
abbrev rm_Rw_empty : Room := ({ frames := 0, cells := 0, slots := 0, locals := 0 } : Room)
set_option maxHeartbeats 4000000 in
set_option maxRecDepth 100000 in
theorem c_Rw_empty (l : Launch) (G : zG) (a0 : Nat) (M : Mem) (r : Mem) (h : p_Rw_empty a0 M = some r) : MetZC l G y_Rw_empty (Cond.code y_Rw_empty b_Rw_empty 2 none :: zws) rm_Rw_empty [.ref (G.1 a0)] M none r := by
  unfold p_Rw_empty at h
  refine z_ofWC (lv := [(0, .ref (G.1 a0))]) (by decide) (Nat.le_of_ble_eq_true rfl) rfl (fun p e R s m args below meth c Q ls F hl hZ => ?_)
  obtain ⟨hx0, hb, hml, hr, hts, hown, hlocks, rfl, hQ⟩ := F
  refine lv_iconst (v := (0 : Int32)) hx0 hb d_Rw_empty_0 (by decide) ?_
  refine lv_istore_n (lv' := [(1, .int (0 : Int32)), (0, .ref (G.1 a0))]) hx0 hb d_Rw_empty_1 rfl hl (by decide) rfl (fun ls hl => ?_)
  obtain ⟨q1, hq2, h⟩ := bnd_some h
  refine W_itr (At := fun (s0 : Int32 × Mem) => ∀ (H : Heap) (locs : List Loc) (ls : Array Slot), ZZC G s s0.2 H locs → lv_has ls 2 [(1, .int s0.1), (0, .ref (G.1 a0))] → W p l e rm_Rw_empty s m args below meth c H locs 0 0 Q (F0 m 2 ls [])) (Ex := fun (q0 : Int32 × Mem) => ∀ (H : Heap) (locs : List Loc) (ls : Array Slot), ZZC G s q0.2 H locs → lv_has ls 2 [] → W p l e rm_Rw_empty s m args below meth c H locs 0 0 Q (F0 m 18 ls [])) (fun s0 x h hx => ?_) _ _ q1 hq2 (fun H locs ls hZ hl => ?_) _ _ _ hZ (lv_sub hl [0, 1] rfl)
  · obtain ⟨x1_2, M_2⟩ := s0
    replace h : p_Rw_empty_L2 a0 x1_2 M_2 = some x := h
    unfold p_Rw_empty_L2 at h
    intro H locs ls hZ hl
    replace hZ : ZZC G s M_2 H locs := hZ
    replace hl : lv_has ls 2 [(1, .int x1_2), (0, .ref (G.1 a0))] := hl
    refine lv_iload_n hx0 hb d_Rw_empty_2 rfl (lv_at hl 0 rfl) ?_
    refine lv_aload_n hx0 hb d_Rw_empty_3 rfl (lv_at hl 1 rfl) ?_
    obtain ⟨hi2_1, h⟩ := chk_some h
    refine z_alenC (k := a0) hx0 hb hZ (of_decide_eq_true hi2_1) d_Rw_empty_4 ?_
    refine lv_icmp_ge (tgt := 18) hx0 hb d_Rw_empty_5 (by decide) (fun c2_2 => ?_) (fun c2_2 => ?_)
    · replace h := (if_pos c2_2).symm.trans h
      obtain rfl := Option.some.inj h
      exact hx _ _ _ hZ (lv_sub hl [] rfl)
    · replace h := (if_neg c2_2).symm.trans h
      refine lv_aload_n hx0 hb d_Rw_empty_8 rfl (lv_at hl 1 rfl) ?_
      refine lv_iload_n hx0 hb d_Rw_empty_9 rfl (lv_at hl 0 rfl) ?_
      refine lv_iconst (v := (0 : Int32)) hx0 hb d_Rw_empty_10 (by decide) ?_
      obtain ⟨hi2_3, h⟩ := chk_some h
      refine z_iastoreC (k := a0) hx0 hb hZ hi2_3 d_Rw_empty_11 (fun H locs hZ => ?_)
      obtain ⟨m2_4, em2_4, h⟩ := nm_some h
      rw [em2_4] at hZ
      refine lv_iinc (v := (x1_2 + (1 : Int32))) (lv' := [(1, .int (x1_2 + (1 : Int32))), (0, .ref (G.1 a0))]) hx0 hb d_Rw_empty_12 hl (k := 0) rfl rfl (by decide) rfl (fun ls hl => ?_)
      refine lv_goto (tgt := 2) hx0 hb d_Rw_empty_15 (by decide) ?_
      obtain rfl := Option.some.inj h
      exact hx _ _ _ hZ (lv_sub hl [0, 1] rfl)
  · replace hZ : ZZC G s q1.2 H locs := hZ
    replace hl : lv_has ls 2 [] := hl
    obtain rfl := Option.some.inj h
    exact z_vretC hx0 hb hr hZ hlocks hQ d_Rw_empty_18
abbrev rm_Rw_forget : Room := ({ frames := 1, cells := 0, slots := 0, locals := 21 } : Room)
set_option maxHeartbeats 4000000 in
set_option maxRecDepth 100000 in
theorem c_Rw_forget (l : Launch) (G : zG)  (M : Mem) (r : Mem) (h : p_Rw_forget  M = some r) : MetZC l G y_Rw_forget (Cond.code y_Rw_forget b_Rw_forget 1 none :: zws) rm_Rw_forget [.ref (G.1 9)] M none r := by
  unfold p_Rw_forget at h
  refine z_ofWC (lv := [(0, .ref (G.1 9))]) (by decide) (Nat.le_of_ble_eq_true rfl) rfl (fun p e R s m args below meth c Q ls F hl hZ => ?_)
  obtain ⟨hx0, hb, hml, hr, hts, hown, hlocks, rfl, hQ⟩ := F
  refine lv_aload_n hx0 hb d_Rw_forget_0 rfl (lv_at hl 0 rfl) ?_
  refine fg_Rw_looked hx0 hb hts hown hZ d_Rw_forget_1 ?_
  obtain ⟨q1, hc3, h⟩ := bnd_some h
  refine k_Rw_Rw_empty [.ref (G.1 10)] hx0 hb hml hts hown (c_Rw_empty l G 10 M q1 hc3) hZ rfl rfl ⟨Nat.le_of_ble_eq_true rfl, Nat.le_of_ble_eq_true rfl⟩ hl.1 rfl (Nat.le_of_ble_eq_true rfl) d_Rw_forget_4 (fun H locs hZ => ?_)
  refine lv_aload_n hx0 hb d_Rw_forget_7 rfl (lv_at hl 0 rfl) ?_
  refine lv_iconst (v := (0 : Int32)) hx0 hb d_Rw_forget_8 (by decide) ?_
  refine fp_Rw_count hx0 hb hts hown hZ d_Rw_forget_9 (fun H locs hZ => ?_)
  obtain ⟨m2, em2, h⟩ := nm_some h
  rw [em2] at hZ
  obtain rfl := Option.some.inj h
  exact z_vretC hx0 hb hr hZ hlocks hQ d_Rw_forget_12
abbrev rm_Rw_addRow : Room := ({ frames := 1, cells := 0, slots := 0, locals := 21 } : Room)
set_option maxHeartbeats 4000000 in
set_option maxRecDepth 100000 in
theorem c_Rw_addRow (l : Launch) (G : zG)  (M : Mem) (r : Int32 × Mem) (h : p_Rw_addRow  M = some r) : MetZC l G y_Rw_addRow (Cond.code y_Rw_addRow b_Rw_addRow 1 (some .int) :: zws) rm_Rw_addRow [.ref (G.1 9)] M (some (.int r.1)) r.2 := by
  unfold p_Rw_addRow at h
  refine z_ofWC (lv := [(0, .ref (G.1 9))]) (by decide) (Nat.le_of_ble_eq_true rfl) rfl (fun p e R s m args below meth c Q ls F hl hZ => ?_)
  obtain ⟨hx0, hb, hml, hr, hts, hown, hlocks, rfl, hQ⟩ := F
  refine lv_aload_n hx0 hb d_Rw_addRow_0 rfl (lv_at hl 0 rfl) ?_
  refine fg_Rw_count hx0 hb hts hown hZ d_Rw_addRow_1 ?_
  refine lv_iconst (v := (5 : Int32)) hx0 hb d_Rw_addRow_4 (by decide) ?_
  refine lv_icmp_lt (tgt := 11) hx0 hb d_Rw_addRow_5 (by decide) (fun c1 => ?_) (fun c1 => ?_)
  · replace h := (if_pos c1).symm.trans h
    refine lv_aload_n hx0 hb d_Rw_addRow_11 rfl (lv_at hl 0 rfl) ?_
    refine fg_Rw_behind hx0 hb hts hown hZ d_Rw_addRow_12 ?_
    refine lv_aload_n hx0 hb d_Rw_addRow_15 rfl (lv_at hl 0 rfl) ?_
    refine fg_Rw_count hx0 hb hts hown hZ d_Rw_addRow_16 ?_
    obtain ⟨hi2, h⟩ := chk_some h
    refine z_aaload_C11 hx0 hb hZ hi2 d_Rw_addRow_19 ?_
    obtain ⟨q3, hc5, h⟩ := bnd_some h
    refine k_Rw_Rw_empty [.ref (G.1 (12 + Int32.toNatClampNeg (M.1 9 2)))] hx0 hb hml hts hown (c_Rw_empty l G (12 + Int32.toNatClampNeg (M.1 9 2)) M q3 hc5) hZ rfl rfl ⟨Nat.le_of_ble_eq_true rfl, Nat.le_of_ble_eq_true rfl⟩ hl.1 rfl (Nat.le_of_ble_eq_true rfl) d_Rw_addRow_20 (fun H locs hZ => ?_)
    refine lv_aload_n hx0 hb d_Rw_addRow_23 rfl (lv_at hl 0 rfl) ?_
    refine lv_dup hx0 hb d_Rw_addRow_24 rfl ?_
    refine fg_Rw_count hx0 hb hts hown hZ d_Rw_addRow_25 ?_
    refine lv_iconst (v := (1 : Int32)) hx0 hb d_Rw_addRow_28 (by decide) ?_
    refine lv_iadd hx0 hb d_Rw_addRow_29 ?_
    refine fp_Rw_count hx0 hb hts hown hZ d_Rw_addRow_30 (fun H locs hZ => ?_)
    obtain ⟨m4, em4, h⟩ := nm_some h
    rw [em4] at hZ
    refine lv_aload_n hx0 hb d_Rw_addRow_33 rfl (lv_at hl 0 rfl) ?_
    refine fg_Rw_count hx0 hb hts hown hZ d_Rw_addRow_34 ?_
    refine lv_iconst (v := (1 : Int32)) hx0 hb d_Rw_addRow_37 (by decide) ?_
    refine lv_isub hx0 hb d_Rw_addRow_38 ?_
    obtain rfl := Option.some.inj h
    exact z_iretC hx0 hb hr hZ hlocks hQ d_Rw_addRow_39
  · replace h := (if_neg c1).symm.trans h
    refine lv_bipush (v := (-4 : Int32)) hx0 hb d_Rw_addRow_8 (by decide) ?_
    obtain rfl := Option.some.inj h
    exact z_iretC hx0 hb hr hZ hlocks hQ d_Rw_addRow_10
abbrev rm_Rw_has : Room := ({ frames := 0, cells := 0, slots := 0, locals := 0 } : Room)
set_option maxHeartbeats 4000000 in
set_option maxRecDepth 100000 in
theorem c_Rw_has (l : Launch) (G : zG) (a1 : Int32) (M : Mem) (r : Int32) (h : p_Rw_has a1 M = some r) : MetZC l G y_Rw_has (Cond.code y_Rw_has b_Rw_has 2 (some .boolean) :: zws) rm_Rw_has [.ref (G.1 9), .int a1] M (some (.int r)) M := by
  unfold p_Rw_has at h
  refine z_ofWC (lv := [(0, .ref (G.1 9)), (1, .int a1)]) (by decide) (Nat.le_of_ble_eq_true rfl) rfl (fun p e R s m args below meth c Q ls F hl hZ => ?_)
  obtain ⟨hx0, hb, hml, hr, hts, hown, hlocks, rfl, hQ⟩ := F
  refine lv_iload_n hx0 hb d_Rw_has_0 rfl (lv_at hl 1 rfl) ?_
  refine lv_iconst (v := (-1 : Int32)) hx0 hb d_Rw_has_1 (by decide) ?_
  refine lv_icmp_lt (tgt := 17) hx0 hb d_Rw_has_2 (by decide) (fun c1 => ?_) (fun c1 => ?_)
  · replace h := (if_pos c1).symm.trans h
    refine lv_iconst (v := (0 : Int32)) hx0 hb d_Rw_has_17 (by decide) ?_
    obtain rfl := Option.some.inj h
    exact z_zretC hx0 hb hr hZ hlocks hQ rfl d_Rw_has_18
  · replace h := (if_neg c1).symm.trans h
    refine lv_iload_n hx0 hb d_Rw_has_5 rfl (lv_at hl 1 rfl) ?_
    refine lv_aload_n hx0 hb d_Rw_has_6 rfl (lv_at hl 0 rfl) ?_
    refine fg_Rw_count hx0 hb hts hown hZ d_Rw_has_7 ?_
    refine lv_icmp_ge (tgt := 17) hx0 hb d_Rw_has_10 (by decide) (fun c2 => ?_) (fun c2 => ?_)
    · replace h := (if_pos c2).symm.trans h
      refine lv_iconst (v := (0 : Int32)) hx0 hb d_Rw_has_17 (by decide) ?_
      obtain rfl := Option.some.inj h
      exact z_zretC hx0 hb hr hZ hlocks hQ rfl d_Rw_has_18
    · replace h := (if_neg c2).symm.trans h
      refine lv_iconst (v := (1 : Int32)) hx0 hb d_Rw_has_13 (by decide) ?_
      refine lv_goto (tgt := 18) hx0 hb d_Rw_has_14 (by decide) ?_
      obtain rfl := Option.some.inj h
      exact z_zretC hx0 hb hr hZ hlocks hQ rfl d_Rw_has_18
abbrev rm_Rw_at : Room := ({ frames := 0, cells := 0, slots := 0, locals := 0 } : Room)
set_option maxHeartbeats 4000000 in
set_option maxRecDepth 100000 in
theorem c_Rw_at (l : Launch) (G : zG) (a1 : Int32) (M : Mem) (r : Nat) (h : p_Rw_at a1 M = some r) : MetZC l G y_Rw_at (Cond.code y_Rw_at b_Rw_at 2 (some (.array .int)) :: zws) rm_Rw_at [.ref (G.1 9), .int a1] M (some (.ref (G.1 r))) M := by
  unfold p_Rw_at at h
  refine z_ofWC (lv := [(0, .ref (G.1 9)), (1, .int a1)]) (by decide) (Nat.le_of_ble_eq_true rfl) rfl (fun p e R s m args below meth c Q ls F hl hZ => ?_)
  obtain ⟨hx0, hb, hml, hr, hts, hown, hlocks, rfl, hQ⟩ := F
  refine lv_iload_n hx0 hb d_Rw_at_0 rfl (lv_at hl 1 rfl) ?_
  refine lv_if_lt (tgt := 18) hx0 hb d_Rw_at_1 (by decide) (fun c1 => ?_) (fun c1 => ?_)
  · replace h := (if_pos c1).symm.trans h
    refine lv_aload_n hx0 hb d_Rw_at_18 rfl (lv_at hl 0 rfl) ?_
    refine fg_Rw_looked hx0 hb hts hown hZ d_Rw_at_19 ?_
    obtain rfl := Option.some.inj h
    exact z_aretC hx0 hb hr hZ hlocks hQ d_Rw_at_22
  · replace h := (if_neg c1).symm.trans h
    refine lv_iload_n hx0 hb d_Rw_at_4 rfl (lv_at hl 1 rfl) ?_
    refine lv_iconst (v := (5 : Int32)) hx0 hb d_Rw_at_5 (by decide) ?_
    refine lv_icmp_ge (tgt := 18) hx0 hb d_Rw_at_6 (by decide) (fun c2 => ?_) (fun c2 => ?_)
    · replace h := (if_pos c2).symm.trans h
      refine lv_aload_n hx0 hb d_Rw_at_18 rfl (lv_at hl 0 rfl) ?_
      refine fg_Rw_looked hx0 hb hts hown hZ d_Rw_at_19 ?_
      obtain rfl := Option.some.inj h
      exact z_aretC hx0 hb hr hZ hlocks hQ d_Rw_at_22
    · replace h := (if_neg c2).symm.trans h
      refine lv_aload_n hx0 hb d_Rw_at_9 rfl (lv_at hl 0 rfl) ?_
      refine fg_Rw_behind hx0 hb hts hown hZ d_Rw_at_10 ?_
      refine lv_iload_n hx0 hb d_Rw_at_13 rfl (lv_at hl 1 rfl) ?_
      obtain ⟨hi3, h⟩ := chk_some h
      refine z_aaload_C11 hx0 hb hZ hi3 d_Rw_at_14 ?_
      refine lv_goto (tgt := 22) hx0 hb d_Rw_at_15 (by decide) ?_
      obtain rfl := Option.some.inj h
      exact z_aretC hx0 hb hr hZ hlocks hQ d_Rw_at_22
end
