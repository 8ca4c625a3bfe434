section
-- ===== PART A: goes FIRST, ahead of the names: the tables' words, and 'selects' of the private methods out of them =====
/-- a private method of a class that the tables say can be made, by its rows of tables_1 -/
def lw_okq (q : MethodName × Nat) : Prop := (q.1.cls ≠ "java/lang/invoke/MethodHandle" ∧ q.1.cls ≠ "java/lang/invoke/VarHandle") ∧ Cond.instantiable q.1.cls q.2 ∈ tables_1 ∧ Cond.privateMethod q.1 ∈ tables_1 ∧ Cond.instanceMethod q.1 ∈ tables_1
theorem lw_p0 : lw_okq (⟨"WordLists", "fits", "(I)Z"⟩, 12) := ⟨⟨by decide +kernel, by decide +kernel⟩, List.mem_of_getElem? (i := 10) (by decide +kernel), List.mem_of_getElem? (i := 72) (by decide +kernel), List.mem_of_getElem? (i := 73) (by decide +kernel)⟩
theorem lw_p1 : lw_okq (⟨"WordLists", "hasRowAt", "(II)Z"⟩, 12) := ⟨⟨by decide +kernel, by decide +kernel⟩, List.mem_of_getElem? (i := 10) (by decide +kernel), List.mem_of_getElem? (i := 76) (by decide +kernel), List.mem_of_getElem? (i := 77) (by decide +kernel)⟩
theorem lw_p2 : lw_okq (⟨"WordLists", "foldedSign", "(I)I"⟩, 12) := ⟨⟨by decide +kernel, by decide +kernel⟩, List.mem_of_getElem? (i := 10) (by decide +kernel), List.mem_of_getElem? (i := 80) (by decide +kernel), List.mem_of_getElem? (i := 81) (by decide +kernel)⟩
theorem lw_p3 : lw_okq (⟨"WordLists", "letterOrNone", "(II)I"⟩, 12) := ⟨⟨by decide +kernel, by decide +kernel⟩, List.mem_of_getElem? (i := 10) (by decide +kernel), List.mem_of_getElem? (i := 84) (by decide +kernel), List.mem_of_getElem? (i := 85) (by decide +kernel)⟩
theorem lw_p4 : lw_okq (⟨"java/lang/Throwable", "fillInStackTrace", "(I)Ljava/lang/Throwable;"⟩, 6) := ⟨⟨by decide +kernel, by decide +kernel⟩, List.mem_of_getElem? (i := 137) (by decide +kernel), List.mem_of_getElem? (i := 135) (by decide +kernel), List.mem_of_getElem? (i := 136) (by decide +kernel)⟩
theorem lw_p5 : lw_okq (⟨"WordLists", "rowHasBlank", "()Z"⟩, 12) := ⟨⟨by decide +kernel, by decide +kernel⟩, List.mem_of_getElem? (i := 10) (by decide +kernel), List.mem_of_getElem? (i := 181) (by decide +kernel), List.mem_of_getElem? (i := 182) (by decide +kernel)⟩
theorem lw_p6 : lw_okq (⟨"WordLists", "wordOfRow", "()I"⟩, 12) := ⟨⟨by decide +kernel, by decide +kernel⟩, List.mem_of_getElem? (i := 10) (by decide +kernel), List.mem_of_getElem? (i := 185) (by decide +kernel), List.mem_of_getElem? (i := 186) (by decide +kernel)⟩
theorem lw_p7 : lw_okq (⟨"WordLists", "addWordOfRow", "()I"⟩, 12) := ⟨⟨by decide +kernel, by decide +kernel⟩, List.mem_of_getElem? (i := 10) (by decide +kernel), List.mem_of_getElem? (i := 189) (by decide +kernel), List.mem_of_getElem? (i := 190) (by decide +kernel)⟩
theorem lw_p8 : lw_okq (⟨"WordLists", "isOf", "(II)Z"⟩, 12) := ⟨⟨by decide +kernel, by decide +kernel⟩, List.mem_of_getElem? (i := 10) (by decide +kernel), List.mem_of_getElem? (i := 203) (by decide +kernel), List.mem_of_getElem? (i := 204) (by decide +kernel)⟩
theorem lw_p9 : lw_okq (⟨"WordLists", "isFreeIn", "(II)Z"⟩, 12) := ⟨⟨by decide +kernel, by decide +kernel⟩, List.mem_of_getElem? (i := 10) (by decide +kernel), List.mem_of_getElem? (i := 217) (by decide +kernel), List.mem_of_getElem? (i := 218) (by decide +kernel)⟩
theorem lw_p10 : lw_okq (⟨"WordLists", "addCandidate", "(I)V"⟩, 12) := ⟨⟨by decide +kernel, by decide +kernel⟩, List.mem_of_getElem? (i := 10) (by decide +kernel), List.mem_of_getElem? (i := 221) (by decide +kernel), List.mem_of_getElem? (i := 222) (by decide +kernel)⟩
theorem lw_p11 : lw_okq (⟨"WordLists", "isAhead", "(II)Z"⟩, 12) := ⟨⟨by decide +kernel, by decide +kernel⟩, List.mem_of_getElem? (i := 10) (by decide +kernel), List.mem_of_getElem? (i := 225) (by decide +kernel), List.mem_of_getElem? (i := 226) (by decide +kernel)⟩
theorem lw_p12 : lw_okq (⟨"WordLists", "sharedBeginning", "(II)I"⟩, 12) := ⟨⟨by decide +kernel, by decide +kernel⟩, List.mem_of_getElem? (i := 10) (by decide +kernel), List.mem_of_getElem? (i := 229) (by decide +kernel), List.mem_of_getElem? (i := 230) (by decide +kernel)⟩
theorem lw_p13 : lw_okq (⟨"WordLists", "isRowInSomeOrder", "(I)Z"⟩, 12) := ⟨⟨by decide +kernel, by decide +kernel⟩, List.mem_of_getElem? (i := 10) (by decide +kernel), List.mem_of_getElem? (i := 272) (by decide +kernel), List.mem_of_getElem? (i := 273) (by decide +kernel)⟩
theorem lw_p14 : lw_okq (⟨"WordLists", "fillStock", "()I"⟩, 12) := ⟨⟨by decide +kernel, by decide +kernel⟩, List.mem_of_getElem? (i := 10) (by decide +kernel), List.mem_of_getElem? (i := 276) (by decide +kernel), List.mem_of_getElem? (i := 277) (by decide +kernel)⟩
theorem lw_p15 : lw_okq (⟨"WordLists", "timesInWord", "(II)I"⟩, 12) := ⟨⟨by decide +kernel, by decide +kernel⟩, List.mem_of_getElem? (i := 10) (by decide +kernel), List.mem_of_getElem? (i := 294) (by decide +kernel), List.mem_of_getElem? (i := 295) (by decide +kernel)⟩
def lw_privs_1 : List (MethodName × Nat) := [(⟨"WordLists", "fits", "(I)Z"⟩, 12), (⟨"WordLists", "hasRowAt", "(II)Z"⟩, 12), (⟨"WordLists", "foldedSign", "(I)I"⟩, 12), (⟨"WordLists", "letterOrNone", "(II)I"⟩, 12), (⟨"java/lang/Throwable", "fillInStackTrace", "(I)Ljava/lang/Throwable;"⟩, 6), (⟨"WordLists", "rowHasBlank", "()Z"⟩, 12), (⟨"WordLists", "wordOfRow", "()I"⟩, 12), (⟨"WordLists", "addWordOfRow", "()I"⟩, 12), (⟨"WordLists", "isOf", "(II)Z"⟩, 12), (⟨"WordLists", "isFreeIn", "(II)Z"⟩, 12), (⟨"WordLists", "addCandidate", "(I)V"⟩, 12), (⟨"WordLists", "isAhead", "(II)Z"⟩, 12), (⟨"WordLists", "sharedBeginning", "(II)I"⟩, 12), (⟨"WordLists", "isRowInSomeOrder", "(I)Z"⟩, 12), (⟨"WordLists", "fillStock", "()I"⟩, 12), (⟨"WordLists", "timesInWord", "(II)I"⟩, 12)]
theorem lw_r1 : ∀ q ∈ lw_privs_1, lw_okq q := List.forall_mem_cons.mpr ⟨lw_p0, List.forall_mem_cons.mpr ⟨lw_p1, List.forall_mem_cons.mpr ⟨lw_p2, List.forall_mem_cons.mpr ⟨lw_p3, List.forall_mem_cons.mpr ⟨lw_p4, List.forall_mem_cons.mpr ⟨lw_p5, List.forall_mem_cons.mpr ⟨lw_p6, List.forall_mem_cons.mpr ⟨lw_p7, List.forall_mem_cons.mpr ⟨lw_p8, List.forall_mem_cons.mpr ⟨lw_p9, List.forall_mem_cons.mpr ⟨lw_p10, List.forall_mem_cons.mpr ⟨lw_p11, List.forall_mem_cons.mpr ⟨lw_p12, List.forall_mem_cons.mpr ⟨lw_p13, List.forall_mem_cons.mpr ⟨lw_p14, List.forall_mem_cons.mpr ⟨lw_p15, fun _ h => absurd h List.not_mem_nil⟩⟩⟩⟩⟩⟩⟩⟩⟩⟩⟩⟩⟩⟩⟩⟩
theorem lw_p16 : lw_okq (⟨"WordLists", "needWord", "(I)V"⟩, 12) := ⟨⟨by decide +kernel, by decide +kernel⟩, List.mem_of_getElem? (i := 10) (by decide +kernel), List.mem_of_getElem? (i := 305) (by decide +kernel), List.mem_of_getElem? (i := 306) (by decide +kernel)⟩
theorem lw_p17 : lw_okq (⟨"WordListsModel", "fails", "(Z)Z"⟩, 13) := ⟨⟨by decide +kernel, by decide +kernel⟩, List.mem_of_getElem? (i := 324) (by decide +kernel), List.mem_of_getElem? (i := 389) (by decide +kernel), List.mem_of_getElem? (i := 390) (by decide +kernel)⟩
theorem lw_p18 : lw_okq (⟨"WordListsModel", "hasBlank", "()Z"⟩, 13) := ⟨⟨by decide +kernel, by decide +kernel⟩, List.mem_of_getElem? (i := 324) (by decide +kernel), List.mem_of_getElem? (i := 400) (by decide +kernel), List.mem_of_getElem? (i := 401) (by decide +kernel)⟩
theorem lw_p19 : lw_okq (⟨"WordListsModel", "fits", "(I)Z"⟩, 13) := ⟨⟨by decide +kernel, by decide +kernel⟩, List.mem_of_getElem? (i := 324) (by decide +kernel), List.mem_of_getElem? (i := 404) (by decide +kernel), List.mem_of_getElem? (i := 405) (by decide +kernel)⟩
theorem lw_p20 : lw_okq (⟨"WordListsModel", "isAt", "(II)Z"⟩, 13) := ⟨⟨by decide +kernel, by decide +kernel⟩, List.mem_of_getElem? (i := 324) (by decide +kernel), List.mem_of_getElem? (i := 408) (by decide +kernel), List.mem_of_getElem? (i := 409) (by decide +kernel)⟩
theorem lw_p21 : lw_okq (⟨"WordListsModel", "signAt", "(I)I"⟩, 13) := ⟨⟨by decide +kernel, by decide +kernel⟩, List.mem_of_getElem? (i := 324) (by decide +kernel), List.mem_of_getElem? (i := 412) (by decide +kernel), List.mem_of_getElem? (i := 413) (by decide +kernel)⟩
theorem lw_p22 : lw_okq (⟨"WordListsModel", "letterAt", "(II)I"⟩, 13) := ⟨⟨by decide +kernel, by decide +kernel⟩, List.mem_of_getElem? (i := 324) (by decide +kernel), List.mem_of_getElem? (i := 416) (by decide +kernel), List.mem_of_getElem? (i := 417) (by decide +kernel)⟩
theorem lw_p23 : lw_okq (⟨"WordListsModel", "isIn", "(II)Z"⟩, 13) := ⟨⟨by decide +kernel, by decide +kernel⟩, List.mem_of_getElem? (i := 324) (by decide +kernel), List.mem_of_getElem? (i := 428) (by decide +kernel), List.mem_of_getElem? (i := 429) (by decide +kernel)⟩
theorem lw_p24 : lw_okq (⟨"WordListsModel", "isAhead", "(II)Z"⟩, 13) := ⟨⟨by decide +kernel, by decide +kernel⟩, List.mem_of_getElem? (i := 324) (by decide +kernel), List.mem_of_getElem? (i := 436) (by decide +kernel), List.mem_of_getElem? (i := 437) (by decide +kernel)⟩
theorem lw_p25 : lw_okq (⟨"WordListsModel", "count", "(IZ)I"⟩, 13) := ⟨⟨by decide +kernel, by decide +kernel⟩, List.mem_of_getElem? (i := 324) (by decide +kernel), List.mem_of_getElem? (i := 452) (by decide +kernel), List.mem_of_getElem? (i := 453) (by decide +kernel)⟩
theorem lw_p26 : lw_okq (⟨"WordListsModel", "isMixed", "(I)Z"⟩, 13) := ⟨⟨by decide +kernel, by decide +kernel⟩, List.mem_of_getElem? (i := 324) (by decide +kernel), List.mem_of_getElem? (i := 464) (by decide +kernel), List.mem_of_getElem? (i := 465) (by decide +kernel)⟩
theorem lw_p27 : lw_okq (⟨"WordListsModel", "isWord", "(I)Z"⟩, 13) := ⟨⟨by decide +kernel, by decide +kernel⟩, List.mem_of_getElem? (i := 324) (by decide +kernel), List.mem_of_getElem? (i := 480) (by decide +kernel), List.mem_of_getElem? (i := 481) (by decide +kernel)⟩
def lw_privs_2 : List (MethodName × Nat) := [(⟨"WordLists", "needWord", "(I)V"⟩, 12), (⟨"WordListsModel", "fails", "(Z)Z"⟩, 13), (⟨"WordListsModel", "hasBlank", "()Z"⟩, 13), (⟨"WordListsModel", "fits", "(I)Z"⟩, 13), (⟨"WordListsModel", "isAt", "(II)Z"⟩, 13), (⟨"WordListsModel", "signAt", "(I)I"⟩, 13), (⟨"WordListsModel", "letterAt", "(II)I"⟩, 13), (⟨"WordListsModel", "isIn", "(II)Z"⟩, 13), (⟨"WordListsModel", "isAhead", "(II)Z"⟩, 13), (⟨"WordListsModel", "count", "(IZ)I"⟩, 13), (⟨"WordListsModel", "isMixed", "(I)Z"⟩, 13), (⟨"WordListsModel", "isWord", "(I)Z"⟩, 13)]
theorem lw_r2 : ∀ q ∈ lw_privs_2, lw_okq q := List.forall_mem_cons.mpr ⟨lw_p16, List.forall_mem_cons.mpr ⟨lw_p17, List.forall_mem_cons.mpr ⟨lw_p18, List.forall_mem_cons.mpr ⟨lw_p19, List.forall_mem_cons.mpr ⟨lw_p20, List.forall_mem_cons.mpr ⟨lw_p21, List.forall_mem_cons.mpr ⟨lw_p22, List.forall_mem_cons.mpr ⟨lw_p23, List.forall_mem_cons.mpr ⟨lw_p24, List.forall_mem_cons.mpr ⟨lw_p25, List.forall_mem_cons.mpr ⟨lw_p26, List.forall_mem_cons.mpr ⟨lw_p27, fun _ h => absurd h List.not_mem_nil⟩⟩⟩⟩⟩⟩⟩⟩⟩⟩⟩⟩
def lw_privs : List (MethodName × Nat) := lw_privs_1 ++ (lw_privs_2)
def lw_tbl : List Cond := k2_sels lw_privs ++ tables_1
theorem lw_privs_ok : ∀ q ∈ lw_privs, lw_okq q := by
  show ∀ q ∈ lw_privs_1 ++ (lw_privs_2), lw_okq q
  exact List.forall_mem_append.mpr ⟨lw_r1, lw_r2⟩
end
section
def RX0 : String := "WordLists"
def TX0 : u_T := fun k => match k with
  | 0 => ("WordLists", "signs", "[I", true)
  | 1 => ("WordLists", "signCount", "I", false)
  | 2 => ("WordLists", "folding", "[I", true)
  | 3 => ("WordLists", "wordLetters", "[I", true)
  | 4 => ("WordLists", "wordLengths", "[I", true)
  | 5 => ("WordLists", "wordScores", "[I", true)
  | 6 => ("WordLists", "wordListBits", "[I", true)
  | 7 => ("WordLists", "wordBarred", "[Z", true)
  | 8 => ("WordLists", "wordCount", "I", false)
  | 9 => ("WordLists", "candidates", "[I", true)
  | 10 => ("WordLists", "candidateCount", "I", false)
  | _ => ("WordLists", "stock", "[I", true)
def tyX0 : Nat → FieldType := fun k => match k with
  | 0 => .array .int
  | 1 => .int
  | 2 => .array .int
  | 3 => .array .int
  | 4 => .array .int
  | 5 => .array .int
  | 6 => .array .int
  | 7 => .array .boolean
  | 8 => .int
  | 9 => .array .int
  | 10 => .int
  | _ => .array .int
abbrev wsX00 : List Cond := u_ws RX0 TX0 12
theorem nmX0 : ∀ a, a < 12 → ∀ b, b < 12 → a ≠ b → (TX0 a).2.1 ≠ (TX0 b).2.1 := by decide +kernel
theorem tyX0_ok : ∀ k, k < 12 → parseFieldDescriptor (TX0 k).2.2.1 = some (tyX0 k) := by decide +kernel
abbrev cX0_init : ByteArray := prog_1_method_1_code
def yX0_init : MethodName := ⟨RX0, "<init>", "()V"⟩
abbrev cX0_sign : ByteArray := prog_1_method_2_code
def yX0_sign : MethodName := ⟨RX0, "sign", "(I)Z"⟩
abbrev cX0_clear : ByteArray := prog_1_method_3_code
def yX0_clear : MethodName := ⟨RX0, "clear", "()V"⟩
abbrev cX0_fold : ByteArray := prog_1_method_4_code
def yX0_fold : MethodName := ⟨RX0, "fold", "(II)V"⟩
abbrev cX0_enter : ByteArray := prog_1_method_5_code
def yX0_enter : MethodName := ⟨RX0, "enter", "(II)I"⟩
abbrev cX0_bar : ByteArray := prog_1_method_6_code
def yX0_bar : MethodName := ⟨RX0, "bar", "(Z)I"⟩
abbrev cX0_merge : ByteArray := prog_1_method_7_code
def yX0_merge : MethodName := ⟨RX0, "merge", "(IIII)I"⟩
abbrev cX0_seek : ByteArray := prog_1_method_8_code
def yX0_seek : MethodName := ⟨RX0, "seek", "(I)I"⟩
abbrev cX0_candidate : ByteArray := prog_1_method_9_code
def yX0_candidate : MethodName := ⟨RX0, "candidate", "(I)I"⟩
abbrev cX0_at : ByteArray := prog_1_method_10_code
def yX0_at : MethodName := ⟨RX0, "at", "(II)I"⟩
abbrev cX0_begins : ByteArray := prog_1_method_11_code
def yX0_begins : MethodName := ⟨RX0, "begins", "(I)I"⟩
abbrev cX0_ends : ByteArray := prog_1_method_12_code
def yX0_ends : MethodName := ⟨RX0, "ends", "(I)I"⟩
abbrev cX0_mixed : ByteArray := prog_1_method_13_code
def yX0_mixed : MethodName := ⟨RX0, "mixed", "(I)I"⟩
abbrev cX0_many : ByteArray := prog_1_method_14_code
def yX0_many : MethodName := ⟨RX0, "many", "(II)I"⟩
abbrev cX0_letters : ByteArray := prog_1_method_15_code
def yX0_letters : MethodName := ⟨RX0, "letters", "(II)I"⟩
abbrev cX0_letter : ByteArray := prog_1_method_16_code
def yX0_letter : MethodName := ⟨RX0, "letter", "(II)I"⟩
abbrev cX0_tell : ByteArray := prog_1_method_17_code
def yX0_tell : MethodName := ⟨RX0, "tell", "(II)I"⟩
abbrev cX0_common : ByteArray := prog_1_method_18_code
def yX0_common : MethodName := ⟨RX0, "common", "(I)I"⟩
abbrev cX0_isLetter : ByteArray := prog_1_method_19_code
def yX0_isLetter : MethodName := ⟨RX0, "isLetter", "(I)Z"⟩
abbrev cX0_needLetter : ByteArray := prog_1_method_20_code
def yX0_needLetter : MethodName := ⟨RX0, "needLetter", "(I)V"⟩
abbrev cX0_needList : ByteArray := prog_1_method_21_code
def yX0_needList : MethodName := ⟨RX0, "needList", "(I)V"⟩
abbrev cX0_needWord : ByteArray := prog_1_method_22_code
def yX0_needWord : MethodName := ⟨RX0, "needWord", "(I)V"⟩
abbrev cX0_isChosen : ByteArray := prog_1_method_23_code
def yX0_isChosen : MethodName := ⟨RX0, "isChosen", "(IZZ)Z"⟩
abbrev cX0_isOf : ByteArray := prog_1_method_24_code
def yX0_isOf : MethodName := ⟨RX0, "isOf", "(II)Z"⟩
abbrev cX0_isFreeIn : ByteArray := prog_1_method_25_code
def yX0_isFreeIn : MethodName := ⟨RX0, "isFreeIn", "(II)Z"⟩
abbrev cX0_foldedSign : ByteArray := prog_1_method_26_code
def yX0_foldedSign : MethodName := ⟨RX0, "foldedSign", "(I)I"⟩
abbrev cX0_rowHasBlank : ByteArray := prog_1_method_27_code
def yX0_rowHasBlank : MethodName := ⟨RX0, "rowHasBlank", "()Z"⟩
abbrev cX0_letterOrNone : ByteArray := prog_1_method_28_code
def yX0_letterOrNone : MethodName := ⟨RX0, "letterOrNone", "(II)I"⟩
abbrev cX0_timesInWord : ByteArray := prog_1_method_29_code
def yX0_timesInWord : MethodName := ⟨RX0, "timesInWord", "(II)I"⟩
abbrev cX0_hasRowAt : ByteArray := prog_1_method_30_code
def yX0_hasRowAt : MethodName := ⟨RX0, "hasRowAt", "(II)Z"⟩
abbrev cX0_fits : ByteArray := prog_1_method_31_code
def yX0_fits : MethodName := ⟨RX0, "fits", "(I)Z"⟩
abbrev cX0_wordOfRow : ByteArray := prog_1_method_32_code
def yX0_wordOfRow : MethodName := ⟨RX0, "wordOfRow", "()I"⟩
abbrev cX0_addWordOfRow : ByteArray := prog_1_method_33_code
def yX0_addWordOfRow : MethodName := ⟨RX0, "addWordOfRow", "()I"⟩
abbrev cX0_addCandidate : ByteArray := prog_1_method_34_code
def yX0_addCandidate : MethodName := ⟨RX0, "addCandidate", "(I)V"⟩
abbrev cX0_isAhead : ByteArray := prog_1_method_35_code
def yX0_isAhead : MethodName := ⟨RX0, "isAhead", "(II)Z"⟩
abbrev cX0_sharedBeginning : ByteArray := prog_1_method_36_code
def yX0_sharedBeginning : MethodName := ⟨RX0, "sharedBeginning", "(II)I"⟩
abbrev cX0_isRowInSomeOrder : ByteArray := prog_1_method_37_code
def yX0_isRowInSomeOrder : MethodName := ⟨RX0, "isRowInSomeOrder", "(I)Z"⟩
abbrev cX0_fillStock : ByteArray := prog_1_method_38_code
def yX0_fillStock : MethodName := ⟨RX0, "fillStock", "()I"⟩
def RX1 : String := "WordListsModel"
def TX1 : u_T := fun k => match k with
  | 0 => ("WordListsModel", "thrown", "I", false)
  | 1 => ("WordListsModel", "size", "I", false)
  | 2 => ("WordListsModel", "row", "[I", true)
  | 3 => ("WordListsModel", "folds", "[I", true)
  | 4 => ("WordListsModel", "many", "I", false)
  | 5 => ("WordListsModel", "letters", "[I", true)
  | 6 => ("WordListsModel", "lengths", "[I", true)
  | 7 => ("WordListsModel", "scores", "[I", true)
  | 8 => ("WordListsModel", "lists", "[I", true)
  | 9 => ("WordListsModel", "barred", "[Z", true)
  | 10 => ("WordListsModel", "found", "I", false)
  | 11 => ("WordListsModel", "candidates", "[I", true)
  | _ => ("WordListsModel", "wanted", "[I", true)
def tyX1 : Nat → FieldType := fun k => match k with
  | 0 => .int
  | 1 => .int
  | 2 => .array .int
  | 3 => .array .int
  | 4 => .int
  | 5 => .array .int
  | 6 => .array .int
  | 7 => .array .int
  | 8 => .array .int
  | 9 => .array .boolean
  | 10 => .int
  | 11 => .array .int
  | _ => .array .int
abbrev wsX10 : List Cond := u_ws RX1 TX1 13
theorem nmX1 : ∀ a, a < 13 → ∀ b, b < 13 → a ≠ b → (TX1 a).2.1 ≠ (TX1 b).2.1 := by decide +kernel
theorem tyX1_ok : ∀ k, k < 13 → parseFieldDescriptor (TX1 k).2.2.1 = some (tyX1 k) := by decide +kernel
abbrev cX1_init : ByteArray := prog_3_method_1_code
def yX1_init : MethodName := ⟨RX1, "<init>", "()V"⟩
abbrev cX1_thrown : ByteArray := prog_3_method_2_code
def yX1_thrown : MethodName := ⟨RX1, "thrown", "()I"⟩
abbrev cX1_fails : ByteArray := prog_3_method_3_code
def yX1_fails : MethodName := ⟨RX1, "fails", "(Z)Z"⟩
abbrev cX1_isLetter : ByteArray := prog_3_method_4_code
def yX1_isLetter : MethodName := ⟨RX1, "isLetter", "(I)Z"⟩
abbrev cX1_isList : ByteArray := prog_3_method_5_code
def yX1_isList : MethodName := ⟨RX1, "isList", "(I)Z"⟩
abbrev cX1_isWord : ByteArray := prog_3_method_6_code
def yX1_isWord : MethodName := ⟨RX1, "isWord", "(I)Z"⟩
abbrev cX1_sign : ByteArray := prog_3_method_7_code
def yX1_sign : MethodName := ⟨RX1, "sign", "(I)Z"⟩
abbrev cX1_clear : ByteArray := prog_3_method_8_code
def yX1_clear : MethodName := ⟨RX1, "clear", "()V"⟩
abbrev cX1_fold : ByteArray := prog_3_method_9_code
def yX1_fold : MethodName := ⟨RX1, "fold", "(II)V"⟩
abbrev cX1_signAt : ByteArray := prog_3_method_10_code
def yX1_signAt : MethodName := ⟨RX1, "signAt", "(I)I"⟩
abbrev cX1_letterAt : ByteArray := prog_3_method_11_code
def yX1_letterAt : MethodName := ⟨RX1, "letterAt", "(II)I"⟩
abbrev cX1_hasBlank : ByteArray := prog_3_method_12_code
def yX1_hasBlank : MethodName := ⟨RX1, "hasBlank", "()Z"⟩
abbrev cX1_isAt : ByteArray := prog_3_method_13_code
def yX1_isAt : MethodName := ⟨RX1, "isAt", "(II)Z"⟩
abbrev cX1_fits : ByteArray := prog_3_method_14_code
def yX1_fits : MethodName := ⟨RX1, "fits", "(I)Z"⟩
abbrev cX1_isIn : ByteArray := prog_3_method_15_code
def yX1_isIn : MethodName := ⟨RX1, "isIn", "(II)Z"⟩
abbrev cX1_enter : ByteArray := prog_3_method_16_code
def yX1_enter : MethodName := ⟨RX1, "enter", "(II)I"⟩
abbrev cX1_bar : ByteArray := prog_3_method_17_code
def yX1_bar : MethodName := ⟨RX1, "bar", "(Z)I"⟩
abbrev cX1_merge : ByteArray := prog_3_method_18_code
def yX1_merge : MethodName := ⟨RX1, "merge", "(IIII)I"⟩
abbrev cX1_isAhead : ByteArray := prog_3_method_19_code
def yX1_isAhead : MethodName := ⟨RX1, "isAhead", "(II)Z"⟩
abbrev cX1_seek : ByteArray := prog_3_method_20_code
def yX1_seek : MethodName := ⟨RX1, "seek", "(I)I"⟩
abbrev cX1_candidate : ByteArray := prog_3_method_21_code
def yX1_candidate : MethodName := ⟨RX1, "candidate", "(I)I"⟩
abbrev cX1_at : ByteArray := prog_3_method_22_code
def yX1_at : MethodName := ⟨RX1, "at", "(II)I"⟩
abbrev cX1_count : ByteArray := prog_3_method_23_code
def yX1_count : MethodName := ⟨RX1, "count", "(IZ)I"⟩
abbrev cX1_begins : ByteArray := prog_3_method_24_code
def yX1_begins : MethodName := ⟨RX1, "begins", "(I)I"⟩
abbrev cX1_ends : ByteArray := prog_3_method_25_code
def yX1_ends : MethodName := ⟨RX1, "ends", "(I)I"⟩
abbrev cX1_isMixed : ByteArray := prog_3_method_26_code
def yX1_isMixed : MethodName := ⟨RX1, "isMixed", "(I)Z"⟩
abbrev cX1_mixed : ByteArray := prog_3_method_27_code
def yX1_mixed : MethodName := ⟨RX1, "mixed", "(I)I"⟩
abbrev cX1_many : ByteArray := prog_3_method_28_code
def yX1_many : MethodName := ⟨RX1, "many", "(II)I"⟩
abbrev cX1_letters : ByteArray := prog_3_method_29_code
def yX1_letters : MethodName := ⟨RX1, "letters", "(II)I"⟩
abbrev cX1_letter : ByteArray := prog_3_method_30_code
def yX1_letter : MethodName := ⟨RX1, "letter", "(II)I"⟩
abbrev cX1_tell : ByteArray := prog_3_method_31_code
def yX1_tell : MethodName := ⟨RX1, "tell", "(II)I"⟩
abbrev cX1_common : ByteArray := prog_3_method_32_code
def yX1_common : MethodName := ⟨RX1, "common", "(I)I"⟩
def RJx00060 : String := "java/lang/ArrayIndexOutOfBoundsException"
def TJx00060 : u_T := fun k => match k with
  | 0 => ("java/lang/Throwable", "cause", "Ljava/lang/Throwable;", false)
  | 1 => ("java/lang/Throwable", "stackTrace", "[Ljava/lang/StackTraceElement;", false)
  | 2 => ("java/lang/Throwable", "suppressedExceptions", "Ljava/util/List;", false)
  | 3 => ("java/lang/Throwable", "detailMessage", "Ljava/lang/String;", false)
  | 4 => ("java/lang/Throwable", "backtrace", "Ljava/lang/Object;", false)
  | _ => ("java/lang/Throwable", "depth", "I", false)
def tyJx00060 : Nat → FieldType := fun k => match k with
  | 0 => .object "java/lang/Throwable"
  | 1 => .array (.object "java/lang/StackTraceElement")
  | 2 => .object "java/util/List"
  | 3 => .object "java/lang/String"
  | 4 => .object "java/lang/Object"
  | _ => .int
abbrev wsJx000600 : List Cond := u_ws RJx00060 TJx00060 6
theorem nmJx00060 : ∀ a, a < 6 → ∀ b, b < 6 → a ≠ b → (TJx00060 a).2.1 ≠ (TJx00060 b).2.1 := by decide +kernel
theorem tyJx00060_ok : ∀ k, k < 6 → parseFieldDescriptor (TJx00060 k).2.2.1 = some (tyJx00060 k) := by decide +kernel
abbrev cJx00060_init_a7421 : ByteArray := prog_4_method_2_code
def yJx00060_init_a7421 : MethodName := ⟨RJx00060, "<init>", "(Ljava/lang/String;)V"⟩
def RJ9 : String := "java/lang/Math"
def TJ9 : u_T := fun k => match k with
  | _ => ("", "", "", false)
def tyJ9 : Nat → FieldType := fun k => match k with
  | _ => .int
theorem nmJ9 : ∀ a, a < 0 → ∀ b, b < 0 → a ≠ b → (TJ9 a).2.1 ≠ (TJ9 b).2.1 := by decide +kernel
theorem tyJ9_ok : ∀ k, k < 0 → parseFieldDescriptor (TJ9 k).2.2.1 = some (tyJ9 k) := by decide +kernel
abbrev cJ9_max_7cf53 : ByteArray := prog_7_method_65_code
def yJ9_max_7cf53 : MethodName := ⟨RJ9, "max", "(II)I"⟩
abbrev cJ9_min_7cf53 : ByteArray := prog_7_method_69_code
def yJ9_min_7cf53 : MethodName := ⟨RJ9, "min", "(II)I"⟩
def RJ0 : String := "java/lang/String"
def TJ0 : u_T := fun k => match k with
  | _ => ("", "", "", false)
def tyJ0 : Nat → FieldType := fun k => match k with
  | _ => .int
theorem nmJ0 : ∀ a, a < 0 → ∀ b, b < 0 → a ≠ b → (TJ0 a).2.1 ≠ (TJ0 b).2.1 := by decide +kernel
theorem tyJ0_ok : ∀ k, k < 0 → parseFieldDescriptor (TJ0 k).2.2.1 = some (tyJ0 k) := by decide +kernel
def RL : String := "WordListsLaw"
abbrev cL_fold : ByteArray := method_3_code
def yL_fold : MethodName := ⟨RL, "fold", "(LWordLists;II)I"⟩
abbrev cL_enter : ByteArray := method_4_code
def yL_enter : MethodName := ⟨RL, "enter", "(LWordLists;II[J)I"⟩
abbrev cL_merge : ByteArray := method_5_code
def yL_merge : MethodName := ⟨RL, "merge", "(LWordLists;IIII[J)I"⟩
abbrev cL_seek : ByteArray := method_6_code
def yL_seek : MethodName := ⟨RL, "seek", "(LWordLists;I[J)I"⟩
abbrev cL_candidate : ByteArray := method_7_code
def yL_candidate : MethodName := ⟨RL, "candidate", "(LWordLists;I[J)I"⟩
abbrev cL_at : ByteArray := method_8_code
def yL_at : MethodName := ⟨RL, "at", "(LWordLists;II[J)I"⟩
abbrev cL_begins : ByteArray := method_9_code
def yL_begins : MethodName := ⟨RL, "begins", "(LWordLists;I[J)I"⟩
abbrev cL_ends : ByteArray := method_10_code
def yL_ends : MethodName := ⟨RL, "ends", "(LWordLists;I[J)I"⟩
abbrev cL_mixed : ByteArray := method_11_code
def yL_mixed : MethodName := ⟨RL, "mixed", "(LWordLists;I[J)I"⟩
abbrev cL_many : ByteArray := method_12_code
def yL_many : MethodName := ⟨RL, "many", "(LWordLists;II[J)I"⟩
abbrev cL_letters : ByteArray := method_13_code
def yL_letters : MethodName := ⟨RL, "letters", "(LWordLists;II[J)I"⟩
abbrev cL_letter : ByteArray := method_14_code
def yL_letter : MethodName := ⟨RL, "letter", "(LWordLists;II[J)I"⟩
abbrev cL_tell : ByteArray := method_15_code
def yL_tell : MethodName := ⟨RL, "tell", "(LWordLists;II[J)I"⟩
abbrev cL_common : ByteArray := method_16_code
def yL_common : MethodName := ⟨RL, "common", "(LWordLists;I[J)I"⟩
abbrev cL_law : ByteArray := code
def yL_law : MethodName := ⟨RL, "law", "([I)Z"⟩
abbrev vwCl : List vw_C := [(RJx00060, TJx00060, 6), (RX0, TX0, 12), (RX1, TX1, 13)]
end
section
theorem dX0_init_0 : decode cX0_init 0 = .ok (.aload_n 0, 1) := by decide +kernel
theorem dX0_init_1 : decode cX0_init 1 = .ok (.invokespecial 1, 3) := by decide +kernel
theorem dX0_init_4 : decode cX0_init 4 = .ok (.aload_n 0, 1) := by decide +kernel
theorem dX0_init_5 : decode cX0_init 5 = .ok (.bipush 15, 2) := by decide +kernel
theorem dX0_init_7 : decode cX0_init 7 = .ok (.newarray .int, 2) := by decide +kernel
theorem dX0_init_9 : decode cX0_init 9 = .ok (.putfield 9, 3) := by decide +kernel
theorem dX0_init_12 : decode cX0_init 12 = .ok (.aload_n 0, 1) := by decide +kernel
theorem dX0_init_13 : decode cX0_init 13 = .ok (.iconst 0, 1) := by decide +kernel
theorem dX0_init_14 : decode cX0_init 14 = .ok (.putfield 13, 3) := by decide +kernel
theorem dX0_init_17 : decode cX0_init 17 = .ok (.aload_n 0, 1) := by decide +kernel
theorem dX0_init_18 : decode cX0_init 18 = .ok (.bipush 26, 2) := by decide +kernel
theorem dX0_init_20 : decode cX0_init 20 = .ok (.newarray .int, 2) := by decide +kernel
theorem dX0_init_22 : decode cX0_init 22 = .ok (.putfield 17, 3) := by decide +kernel
theorem dX0_init_25 : decode cX0_init 25 = .ok (.iconst 0, 1) := by decide +kernel
theorem dX0_init_26 : decode cX0_init 26 = .ok (.istore_n 1, 1) := by decide +kernel
theorem dX0_init_27 : decode cX0_init 27 = .ok (.iload_n 1, 1) := by decide +kernel
theorem dX0_init_28 : decode cX0_init 28 = .ok (.bipush 26, 2) := by decide +kernel
theorem dX0_init_30 : decode cX0_init 30 = .ok (.if_icmp .ge 19, 3) := by decide +kernel
theorem dX0_init_33 : decode cX0_init 33 = .ok (.aload_n 0, 1) := by decide +kernel
theorem dX0_init_34 : decode cX0_init 34 = .ok (.getfield 17, 3) := by decide +kernel
theorem dX0_init_37 : decode cX0_init 37 = .ok (.iload_n 1, 1) := by decide +kernel
theorem dX0_init_38 : decode cX0_init 38 = .ok (.bipush 97, 2) := by decide +kernel
theorem dX0_init_40 : decode cX0_init 40 = .ok (.iload_n 1, 1) := by decide +kernel
theorem dX0_init_41 : decode cX0_init 41 = .ok (.iadd, 1) := by decide +kernel
theorem dX0_init_42 : decode cX0_init 42 = .ok (.iastore, 1) := by decide +kernel
theorem dX0_init_43 : decode cX0_init 43 = .ok (.iinc 1 1, 3) := by decide +kernel
theorem dX0_init_46 : decode cX0_init 46 = .ok (.goto (-19), 3) := by decide +kernel
theorem dX0_init_49 : decode cX0_init 49 = .ok (.aload_n 0, 1) := by decide +kernel
theorem dX0_init_50 : decode cX0_init 50 = .ok (.sipush 3750, 3) := by decide +kernel
theorem dX0_init_53 : decode cX0_init 53 = .ok (.newarray .int, 2) := by decide +kernel
theorem dX0_init_55 : decode cX0_init 55 = .ok (.putfield 20, 3) := by decide +kernel
theorem dX0_init_58 : decode cX0_init 58 = .ok (.aload_n 0, 1) := by decide +kernel
theorem dX0_init_59 : decode cX0_init 59 = .ok (.sipush 250, 3) := by decide +kernel
theorem dX0_init_62 : decode cX0_init 62 = .ok (.newarray .int, 2) := by decide +kernel
theorem dX0_init_64 : decode cX0_init 64 = .ok (.putfield 23, 3) := by decide +kernel
theorem dX0_init_67 : decode cX0_init 67 = .ok (.aload_n 0, 1) := by decide +kernel
theorem dX0_init_68 : decode cX0_init 68 = .ok (.sipush 250, 3) := by decide +kernel
theorem dX0_init_71 : decode cX0_init 71 = .ok (.newarray .int, 2) := by decide +kernel
theorem dX0_init_73 : decode cX0_init 73 = .ok (.putfield 26, 3) := by decide +kernel
theorem dX0_init_76 : decode cX0_init 76 = .ok (.aload_n 0, 1) := by decide +kernel
theorem dX0_init_77 : decode cX0_init 77 = .ok (.sipush 250, 3) := by decide +kernel
theorem dX0_init_80 : decode cX0_init 80 = .ok (.newarray .int, 2) := by decide +kernel
theorem dX0_init_82 : decode cX0_init 82 = .ok (.putfield 29, 3) := by decide +kernel
theorem dX0_init_85 : decode cX0_init 85 = .ok (.aload_n 0, 1) := by decide +kernel
theorem dX0_init_86 : decode cX0_init 86 = .ok (.sipush 250, 3) := by decide +kernel
theorem dX0_init_89 : decode cX0_init 89 = .ok (.newarray .boolean, 2) := by decide +kernel
theorem dX0_init_91 : decode cX0_init 91 = .ok (.putfield 32, 3) := by decide +kernel
theorem dX0_init_94 : decode cX0_init 94 = .ok (.aload_n 0, 1) := by decide +kernel
theorem dX0_init_95 : decode cX0_init 95 = .ok (.iconst 0, 1) := by decide +kernel
theorem dX0_init_96 : decode cX0_init 96 = .ok (.putfield 36, 3) := by decide +kernel
theorem dX0_init_99 : decode cX0_init 99 = .ok (.aload_n 0, 1) := by decide +kernel
theorem dX0_init_100 : decode cX0_init 100 = .ok (.sipush 250, 3) := by decide +kernel
theorem dX0_init_103 : decode cX0_init 103 = .ok (.newarray .int, 2) := by decide +kernel
theorem dX0_init_105 : decode cX0_init 105 = .ok (.putfield 39, 3) := by decide +kernel
theorem dX0_init_108 : decode cX0_init 108 = .ok (.aload_n 0, 1) := by decide +kernel
theorem dX0_init_109 : decode cX0_init 109 = .ok (.iconst 0, 1) := by decide +kernel
theorem dX0_init_110 : decode cX0_init 110 = .ok (.putfield 42, 3) := by decide +kernel
theorem dX0_init_113 : decode cX0_init 113 = .ok (.aload_n 0, 1) := by decide +kernel
theorem dX0_init_114 : decode cX0_init 114 = .ok (.bipush 26, 2) := by decide +kernel
theorem dX0_init_116 : decode cX0_init 116 = .ok (.newarray .int, 2) := by decide +kernel
theorem dX0_init_118 : decode cX0_init 118 = .ok (.putfield 45, 3) := by decide +kernel
theorem dX0_init_121 : decode cX0_init 121 = .ok (.return_, 1) := by decide +kernel
theorem dX0_sign_0 : decode cX0_sign 0 = .ok (.aload_n 0, 1) := by decide +kernel
theorem dX0_sign_1 : decode cX0_sign 1 = .ok (.getfield 13, 3) := by decide +kernel
theorem dX0_sign_4 : decode cX0_sign 4 = .ok (.bipush 15, 2) := by decide +kernel
theorem dX0_sign_6 : decode cX0_sign 6 = .ok (.if_icmp .ge 16, 3) := by decide +kernel
theorem dX0_sign_9 : decode cX0_sign 9 = .ok (.iload_n 1, 1) := by decide +kernel
theorem dX0_sign_10 : decode cX0_sign 10 = .ok (.invokestatic 48, 3) := by decide +kernel
theorem dX0_sign_13 : decode cX0_sign 13 = .ok (.ifCond .ne 11, 3) := by decide +kernel
theorem dX0_sign_16 : decode cX0_sign 16 = .ok (.iload_n 1, 1) := by decide +kernel
theorem dX0_sign_17 : decode cX0_sign 17 = .ok (.bipush 63, 2) := by decide +kernel
theorem dX0_sign_19 : decode cX0_sign 19 = .ok (.if_icmp .eq 5, 3) := by decide +kernel
theorem dX0_sign_22 : decode cX0_sign 22 = .ok (.iconst 0, 1) := by decide +kernel
theorem dX0_sign_23 : decode cX0_sign 23 = .ok (.ireturn, 1) := by decide +kernel
theorem dX0_sign_24 : decode cX0_sign 24 = .ok (.aload_n 0, 1) := by decide +kernel
theorem dX0_sign_25 : decode cX0_sign 25 = .ok (.getfield 9, 3) := by decide +kernel
theorem dX0_sign_28 : decode cX0_sign 28 = .ok (.aload_n 0, 1) := by decide +kernel
theorem dX0_sign_29 : decode cX0_sign 29 = .ok (.getfield 13, 3) := by decide +kernel
theorem dX0_sign_32 : decode cX0_sign 32 = .ok (.iload_n 1, 1) := by decide +kernel
theorem dX0_sign_33 : decode cX0_sign 33 = .ok (.iastore, 1) := by decide +kernel
theorem dX0_sign_34 : decode cX0_sign 34 = .ok (.aload_n 0, 1) := by decide +kernel
theorem dX0_sign_35 : decode cX0_sign 35 = .ok (.dup, 1) := by decide +kernel
theorem dX0_sign_36 : decode cX0_sign 36 = .ok (.getfield 13, 3) := by decide +kernel
theorem dX0_sign_39 : decode cX0_sign 39 = .ok (.iconst 1, 1) := by decide +kernel
theorem dX0_sign_40 : decode cX0_sign 40 = .ok (.iadd, 1) := by decide +kernel
theorem dX0_sign_41 : decode cX0_sign 41 = .ok (.putfield 13, 3) := by decide +kernel
theorem dX0_sign_44 : decode cX0_sign 44 = .ok (.iconst 1, 1) := by decide +kernel
theorem dX0_sign_45 : decode cX0_sign 45 = .ok (.ireturn, 1) := by decide +kernel
theorem dX0_clear_0 : decode cX0_clear 0 = .ok (.aload_n 0, 1) := by decide +kernel
theorem dX0_clear_1 : decode cX0_clear 1 = .ok (.iconst 0, 1) := by decide +kernel
theorem dX0_clear_2 : decode cX0_clear 2 = .ok (.putfield 13, 3) := by decide +kernel
theorem dX0_clear_5 : decode cX0_clear 5 = .ok (.return_, 1) := by decide +kernel
theorem dX0_fold_0 : decode cX0_fold 0 = .ok (.iload_n 1, 1) := by decide +kernel
theorem dX0_fold_1 : decode cX0_fold 1 = .ok (.invokestatic 52, 3) := by decide +kernel
theorem dX0_fold_4 : decode cX0_fold 4 = .ok (.iload_n 2, 1) := by decide +kernel
theorem dX0_fold_5 : decode cX0_fold 5 = .ok (.invokestatic 52, 3) := by decide +kernel
theorem dX0_fold_8 : decode cX0_fold 8 = .ok (.aload_n 0, 1) := by decide +kernel
theorem dX0_fold_9 : decode cX0_fold 9 = .ok (.getfield 17, 3) := by decide +kernel
theorem dX0_fold_12 : decode cX0_fold 12 = .ok (.iload_n 1, 1) := by decide +kernel
theorem dX0_fold_13 : decode cX0_fold 13 = .ok (.bipush 97, 2) := by decide +kernel
theorem dX0_fold_15 : decode cX0_fold 15 = .ok (.isub, 1) := by decide +kernel
theorem dX0_fold_16 : decode cX0_fold 16 = .ok (.iload_n 2, 1) := by decide +kernel
theorem dX0_fold_17 : decode cX0_fold 17 = .ok (.iastore, 1) := by decide +kernel
theorem dX0_fold_18 : decode cX0_fold 18 = .ok (.return_, 1) := by decide +kernel
theorem dX0_enter_0 : decode cX0_enter 0 = .ok (.iload_n 1, 1) := by decide +kernel
theorem dX0_enter_1 : decode cX0_enter 1 = .ok (.invokestatic 56, 3) := by decide +kernel
theorem dX0_enter_4 : decode cX0_enter 4 = .ok (.aload_n 0, 1) := by decide +kernel
theorem dX0_enter_5 : decode cX0_enter 5 = .ok (.getfield 13, 3) := by decide +kernel
theorem dX0_enter_8 : decode cX0_enter 8 = .ok (.ifCond .eq 21, 3) := by decide +kernel
theorem dX0_enter_11 : decode cX0_enter 11 = .ok (.aload_n 0, 1) := by decide +kernel
theorem dX0_enter_12 : decode cX0_enter 12 = .ok (.invokevirtual 59, 3) := by decide +kernel
theorem dX0_enter_15 : decode cX0_enter 15 = .ok (.ifCond .ne 14, 3) := by decide +kernel
theorem dX0_enter_18 : decode cX0_enter 18 = .ok (.iload_n 2, 1) := by decide +kernel
theorem dX0_enter_19 : decode cX0_enter 19 = .ok (.ifCond .lt 10, 3) := by decide +kernel
theorem dX0_enter_22 : decode cX0_enter 22 = .ok (.iload_n 2, 1) := by decide +kernel
theorem dX0_enter_23 : decode cX0_enter 23 = .ok (.sipush 1000, 3) := by decide +kernel
theorem dX0_enter_26 : decode cX0_enter 26 = .ok (.if_icmp .le 5, 3) := by decide +kernel
theorem dX0_enter_29 : decode cX0_enter 29 = .ok (.iconst (-1), 1) := by decide +kernel
theorem dX0_enter_30 : decode cX0_enter 30 = .ok (.ireturn, 1) := by decide +kernel
theorem dX0_enter_31 : decode cX0_enter 31 = .ok (.aload_n 0, 1) := by decide +kernel
theorem dX0_enter_32 : decode cX0_enter 32 = .ok (.invokevirtual 63, 3) := by decide +kernel
theorem dX0_enter_35 : decode cX0_enter 35 = .ok (.istore_n 3, 1) := by decide +kernel
theorem dX0_enter_36 : decode cX0_enter 36 = .ok (.iload_n 3, 1) := by decide +kernel
theorem dX0_enter_37 : decode cX0_enter 37 = .ok (.iconst (-1), 1) := by decide +kernel
theorem dX0_enter_38 : decode cX0_enter 38 = .ok (.if_icmp .ne 20, 3) := by decide +kernel
theorem dX0_enter_41 : decode cX0_enter 41 = .ok (.aload_n 0, 1) := by decide +kernel
theorem dX0_enter_42 : decode cX0_enter 42 = .ok (.getfield 36, 3) := by decide +kernel
theorem dX0_enter_45 : decode cX0_enter 45 = .ok (.sipush 250, 3) := by decide +kernel
theorem dX0_enter_48 : decode cX0_enter 48 = .ok (.if_icmp .lt 5, 3) := by decide +kernel
theorem dX0_enter_51 : decode cX0_enter 51 = .ok (.iconst (-1), 1) := by decide +kernel
theorem dX0_enter_52 : decode cX0_enter 52 = .ok (.ireturn, 1) := by decide +kernel
theorem dX0_enter_53 : decode cX0_enter 53 = .ok (.aload_n 0, 1) := by decide +kernel
theorem dX0_enter_54 : decode cX0_enter 54 = .ok (.invokevirtual 67, 3) := by decide +kernel
theorem dX0_enter_57 : decode cX0_enter 57 = .ok (.istore_n 3, 1) := by decide +kernel
theorem dX0_enter_58 : decode cX0_enter 58 = .ok (.aload_n 0, 1) := by decide +kernel
theorem dX0_enter_59 : decode cX0_enter 59 = .ok (.getfield 29, 3) := by decide +kernel
theorem dX0_enter_62 : decode cX0_enter 62 = .ok (.iload_n 3, 1) := by decide +kernel
theorem dX0_enter_63 : decode cX0_enter 63 = .ok (.dup2, 1) := by decide +kernel
theorem dX0_enter_64 : decode cX0_enter 64 = .ok (.iaload, 1) := by decide +kernel
theorem dX0_enter_65 : decode cX0_enter 65 = .ok (.iconst 1, 1) := by decide +kernel
theorem dX0_enter_66 : decode cX0_enter 66 = .ok (.iload_n 1, 1) := by decide +kernel
theorem dX0_enter_67 : decode cX0_enter 67 = .ok (.ishl, 1) := by decide +kernel
theorem dX0_enter_68 : decode cX0_enter 68 = .ok (.ior, 1) := by decide +kernel
theorem dX0_enter_69 : decode cX0_enter 69 = .ok (.iastore, 1) := by decide +kernel
theorem dX0_enter_70 : decode cX0_enter 70 = .ok (.aload_n 0, 1) := by decide +kernel
theorem dX0_enter_71 : decode cX0_enter 71 = .ok (.getfield 26, 3) := by decide +kernel
theorem dX0_enter_74 : decode cX0_enter 74 = .ok (.iload_n 3, 1) := by decide +kernel
theorem dX0_enter_75 : decode cX0_enter 75 = .ok (.aload_n 0, 1) := by decide +kernel
theorem dX0_enter_76 : decode cX0_enter 76 = .ok (.getfield 26, 3) := by decide +kernel
theorem dX0_enter_79 : decode cX0_enter 79 = .ok (.iload_n 3, 1) := by decide +kernel
theorem dX0_enter_80 : decode cX0_enter 80 = .ok (.iaload, 1) := by decide +kernel
theorem dX0_enter_81 : decode cX0_enter 81 = .ok (.iload_n 2, 1) := by decide +kernel
theorem dX0_enter_82 : decode cX0_enter 82 = .ok (.invokestatic 70, 3) := by decide +kernel
theorem dX0_enter_85 : decode cX0_enter 85 = .ok (.iastore, 1) := by decide +kernel
theorem dX0_enter_86 : decode cX0_enter 86 = .ok (.iload_n 3, 1) := by decide +kernel
theorem dX0_enter_87 : decode cX0_enter 87 = .ok (.ireturn, 1) := by decide +kernel
theorem dX0_bar_0 : decode cX0_bar 0 = .ok (.iconst 0, 1) := by decide +kernel
theorem dX0_bar_1 : decode cX0_bar 1 = .ok (.istore_n 2, 1) := by decide +kernel
theorem dX0_bar_2 : decode cX0_bar 2 = .ok (.iconst 0, 1) := by decide +kernel
theorem dX0_bar_3 : decode cX0_bar 3 = .ok (.istore_n 3, 1) := by decide +kernel
theorem dX0_bar_4 : decode cX0_bar 4 = .ok (.iload_n 3, 1) := by decide +kernel
theorem dX0_bar_5 : decode cX0_bar 5 = .ok (.aload_n 0, 1) := by decide +kernel
theorem dX0_bar_6 : decode cX0_bar 6 = .ok (.getfield 36, 3) := by decide +kernel
theorem dX0_bar_9 : decode cX0_bar 9 = .ok (.if_icmp .ge 37, 3) := by decide +kernel
theorem dX0_bar_12 : decode cX0_bar 12 = .ok (.aload_n 0, 1) := by decide +kernel
theorem dX0_bar_13 : decode cX0_bar 13 = .ok (.getfield 32, 3) := by decide +kernel
theorem dX0_bar_16 : decode cX0_bar 16 = .ok (.iload_n 3, 1) := by decide +kernel
theorem dX0_bar_17 : decode cX0_bar 17 = .ok (.baload, 1) := by decide +kernel
theorem dX0_bar_18 : decode cX0_bar 18 = .ok (.iload_n 1, 1) := by decide +kernel
theorem dX0_bar_19 : decode cX0_bar 19 = .ok (.if_icmp .eq 21, 3) := by decide +kernel
theorem dX0_bar_22 : decode cX0_bar 22 = .ok (.aload_n 0, 1) := by decide +kernel
theorem dX0_bar_23 : decode cX0_bar 23 = .ok (.iload_n 3, 1) := by decide +kernel
theorem dX0_bar_24 : decode cX0_bar 24 = .ok (.invokevirtual 76, 3) := by decide +kernel
theorem dX0_bar_27 : decode cX0_bar 27 = .ok (.ifCond .eq 13, 3) := by decide +kernel
theorem dX0_bar_30 : decode cX0_bar 30 = .ok (.aload_n 0, 1) := by decide +kernel
theorem dX0_bar_31 : decode cX0_bar 31 = .ok (.getfield 32, 3) := by decide +kernel
theorem dX0_bar_34 : decode cX0_bar 34 = .ok (.iload_n 3, 1) := by decide +kernel
theorem dX0_bar_35 : decode cX0_bar 35 = .ok (.iload_n 1, 1) := by decide +kernel
theorem dX0_bar_36 : decode cX0_bar 36 = .ok (.bastore, 1) := by decide +kernel
theorem dX0_bar_37 : decode cX0_bar 37 = .ok (.iinc 2 1, 3) := by decide +kernel
theorem dX0_bar_40 : decode cX0_bar 40 = .ok (.iinc 3 1, 3) := by decide +kernel
theorem dX0_bar_43 : decode cX0_bar 43 = .ok (.goto (-39), 3) := by decide +kernel
theorem dX0_bar_46 : decode cX0_bar 46 = .ok (.iload_n 2, 1) := by decide +kernel
theorem dX0_bar_47 : decode cX0_bar 47 = .ok (.ireturn, 1) := by decide +kernel
theorem dX0_merge_0 : decode cX0_merge 0 = .ok (.iload_n 2, 1) := by decide +kernel
theorem dX0_merge_1 : decode cX0_merge 1 = .ok (.invokestatic 56, 3) := by decide +kernel
theorem dX0_merge_4 : decode cX0_merge 4 = .ok (.iload_n 3, 1) := by decide +kernel
theorem dX0_merge_5 : decode cX0_merge 5 = .ok (.invokestatic 56, 3) := by decide +kernel
theorem dX0_merge_8 : decode cX0_merge 8 = .ok (.iload 4, 2) := by decide +kernel
theorem dX0_merge_10 : decode cX0_merge 10 = .ok (.invokestatic 56, 3) := by decide +kernel
theorem dX0_merge_13 : decode cX0_merge 13 = .ok (.iload_n 1, 1) := by decide +kernel
theorem dX0_merge_14 : decode cX0_merge 14 = .ok (.ifCond .eq 15, 3) := by decide +kernel
theorem dX0_merge_17 : decode cX0_merge 17 = .ok (.iload_n 1, 1) := by decide +kernel
theorem dX0_merge_18 : decode cX0_merge 18 = .ok (.iconst 1, 1) := by decide +kernel
theorem dX0_merge_19 : decode cX0_merge 19 = .ok (.if_icmp .eq 10, 3) := by decide +kernel
theorem dX0_merge_22 : decode cX0_merge 22 = .ok (.iload_n 1, 1) := by decide +kernel
theorem dX0_merge_23 : decode cX0_merge 23 = .ok (.iconst 2, 1) := by decide +kernel
theorem dX0_merge_24 : decode cX0_merge 24 = .ok (.if_icmp .eq 5, 3) := by decide +kernel
theorem dX0_merge_27 : decode cX0_merge 27 = .ok (.iconst (-1), 1) := by decide +kernel
theorem dX0_merge_28 : decode cX0_merge 28 = .ok (.ireturn, 1) := by decide +kernel
theorem dX0_merge_29 : decode cX0_merge 29 = .ok (.iconst 0, 1) := by decide +kernel
theorem dX0_merge_30 : decode cX0_merge 30 = .ok (.istore 5, 2) := by decide +kernel
theorem dX0_merge_32 : decode cX0_merge 32 = .ok (.iconst 0, 1) := by decide +kernel
theorem dX0_merge_33 : decode cX0_merge 33 = .ok (.istore 6, 2) := by decide +kernel
theorem dX0_merge_35 : decode cX0_merge 35 = .ok (.iload 6, 2) := by decide +kernel
theorem dX0_merge_37 : decode cX0_merge 37 = .ok (.aload_n 0, 1) := by decide +kernel
theorem dX0_merge_38 : decode cX0_merge 38 = .ok (.getfield 36, 3) := by decide +kernel
theorem dX0_merge_41 : decode cX0_merge 41 = .ok (.if_icmp .ge 65, 3) := by decide +kernel
theorem dX0_merge_44 : decode cX0_merge 44 = .ok (.iload_n 1, 1) := by decide +kernel
theorem dX0_merge_45 : decode cX0_merge 45 = .ok (.aload_n 0, 1) := by decide +kernel
theorem dX0_merge_46 : decode cX0_merge 46 = .ok (.iload 6, 2) := by decide +kernel
theorem dX0_merge_48 : decode cX0_merge 48 = .ok (.iload_n 3, 1) := by decide +kernel
theorem dX0_merge_49 : decode cX0_merge 49 = .ok (.invokevirtual 79, 3) := by decide +kernel
theorem dX0_merge_52 : decode cX0_merge 52 = .ok (.aload_n 0, 1) := by decide +kernel
theorem dX0_merge_53 : decode cX0_merge 53 = .ok (.iload 6, 2) := by decide +kernel
theorem dX0_merge_55 : decode cX0_merge 55 = .ok (.iload 4, 2) := by decide +kernel
theorem dX0_merge_57 : decode cX0_merge 57 = .ok (.invokevirtual 79, 3) := by decide +kernel
theorem dX0_merge_60 : decode cX0_merge 60 = .ok (.invokestatic 83, 3) := by decide +kernel
theorem dX0_merge_63 : decode cX0_merge 63 = .ok (.ifCond .eq 22, 3) := by decide +kernel
theorem dX0_merge_66 : decode cX0_merge 66 = .ok (.aload_n 0, 1) := by decide +kernel
theorem dX0_merge_67 : decode cX0_merge 67 = .ok (.getfield 29, 3) := by decide +kernel
theorem dX0_merge_70 : decode cX0_merge 70 = .ok (.iload 6, 2) := by decide +kernel
theorem dX0_merge_72 : decode cX0_merge 72 = .ok (.dup2, 1) := by decide +kernel
theorem dX0_merge_73 : decode cX0_merge 73 = .ok (.iaload, 1) := by decide +kernel
theorem dX0_merge_74 : decode cX0_merge 74 = .ok (.iconst 1, 1) := by decide +kernel
theorem dX0_merge_75 : decode cX0_merge 75 = .ok (.iload_n 2, 1) := by decide +kernel
theorem dX0_merge_76 : decode cX0_merge 76 = .ok (.ishl, 1) := by decide +kernel
theorem dX0_merge_77 : decode cX0_merge 77 = .ok (.ior, 1) := by decide +kernel
theorem dX0_merge_78 : decode cX0_merge 78 = .ok (.iastore, 1) := by decide +kernel
theorem dX0_merge_79 : decode cX0_merge 79 = .ok (.iinc 5 1, 3) := by decide +kernel
theorem dX0_merge_82 : decode cX0_merge 82 = .ok (.goto 18, 3) := by decide +kernel
theorem dX0_merge_85 : decode cX0_merge 85 = .ok (.aload_n 0, 1) := by decide +kernel
theorem dX0_merge_86 : decode cX0_merge 86 = .ok (.getfield 29, 3) := by decide +kernel
theorem dX0_merge_89 : decode cX0_merge 89 = .ok (.iload 6, 2) := by decide +kernel
theorem dX0_merge_91 : decode cX0_merge 91 = .ok (.dup2, 1) := by decide +kernel
theorem dX0_merge_92 : decode cX0_merge 92 = .ok (.iaload, 1) := by decide +kernel
theorem dX0_merge_93 : decode cX0_merge 93 = .ok (.iconst 1, 1) := by decide +kernel
theorem dX0_merge_94 : decode cX0_merge 94 = .ok (.iload_n 2, 1) := by decide +kernel
theorem dX0_merge_95 : decode cX0_merge 95 = .ok (.ishl, 1) := by decide +kernel
theorem dX0_merge_96 : decode cX0_merge 96 = .ok (.iconst (-1), 1) := by decide +kernel
theorem dX0_merge_97 : decode cX0_merge 97 = .ok (.ixor, 1) := by decide +kernel
theorem dX0_merge_98 : decode cX0_merge 98 = .ok (.iand, 1) := by decide +kernel
theorem dX0_merge_99 : decode cX0_merge 99 = .ok (.iastore, 1) := by decide +kernel
theorem dX0_merge_100 : decode cX0_merge 100 = .ok (.iinc 6 1, 3) := by decide +kernel
theorem dX0_merge_103 : decode cX0_merge 103 = .ok (.goto (-68), 3) := by decide +kernel
theorem dX0_merge_106 : decode cX0_merge 106 = .ok (.iload 5, 2) := by decide +kernel
theorem dX0_merge_108 : decode cX0_merge 108 = .ok (.ireturn, 1) := by decide +kernel
theorem dX0_seek_0 : decode cX0_seek 0 = .ok (.iload_n 1, 1) := by decide +kernel
theorem dX0_seek_1 : decode cX0_seek 1 = .ok (.invokestatic 56, 3) := by decide +kernel
theorem dX0_seek_4 : decode cX0_seek 4 = .ok (.aload_n 0, 1) := by decide +kernel
theorem dX0_seek_5 : decode cX0_seek 5 = .ok (.iconst 0, 1) := by decide +kernel
theorem dX0_seek_6 : decode cX0_seek 6 = .ok (.putfield 42, 3) := by decide +kernel
theorem dX0_seek_9 : decode cX0_seek 9 = .ok (.iconst 0, 1) := by decide +kernel
theorem dX0_seek_10 : decode cX0_seek 10 = .ok (.istore_n 2, 1) := by decide +kernel
theorem dX0_seek_11 : decode cX0_seek 11 = .ok (.iload_n 2, 1) := by decide +kernel
theorem dX0_seek_12 : decode cX0_seek 12 = .ok (.aload_n 0, 1) := by decide +kernel
theorem dX0_seek_13 : decode cX0_seek 13 = .ok (.getfield 36, 3) := by decide +kernel
theorem dX0_seek_16 : decode cX0_seek 16 = .ok (.if_icmp .ge 31, 3) := by decide +kernel
theorem dX0_seek_19 : decode cX0_seek 19 = .ok (.aload_n 0, 1) := by decide +kernel
theorem dX0_seek_20 : decode cX0_seek 20 = .ok (.iload_n 2, 1) := by decide +kernel
theorem dX0_seek_21 : decode cX0_seek 21 = .ok (.iload_n 1, 1) := by decide +kernel
theorem dX0_seek_22 : decode cX0_seek 22 = .ok (.invokevirtual 87, 3) := by decide +kernel
theorem dX0_seek_25 : decode cX0_seek 25 = .ok (.ifCond .eq 16, 3) := by decide +kernel
theorem dX0_seek_28 : decode cX0_seek 28 = .ok (.aload_n 0, 1) := by decide +kernel
theorem dX0_seek_29 : decode cX0_seek 29 = .ok (.iload_n 2, 1) := by decide +kernel
theorem dX0_seek_30 : decode cX0_seek 30 = .ok (.invokevirtual 76, 3) := by decide +kernel
theorem dX0_seek_33 : decode cX0_seek 33 = .ok (.ifCond .eq 8, 3) := by decide +kernel
theorem dX0_seek_36 : decode cX0_seek 36 = .ok (.aload_n 0, 1) := by decide +kernel
theorem dX0_seek_37 : decode cX0_seek 37 = .ok (.iload_n 2, 1) := by decide +kernel
theorem dX0_seek_38 : decode cX0_seek 38 = .ok (.invokevirtual 90, 3) := by decide +kernel
theorem dX0_seek_41 : decode cX0_seek 41 = .ok (.iinc 2 1, 3) := by decide +kernel
theorem dX0_seek_44 : decode cX0_seek 44 = .ok (.goto (-33), 3) := by decide +kernel
theorem dX0_seek_47 : decode cX0_seek 47 = .ok (.aload_n 0, 1) := by decide +kernel
theorem dX0_seek_48 : decode cX0_seek 48 = .ok (.getfield 42, 3) := by decide +kernel
theorem dX0_seek_51 : decode cX0_seek 51 = .ok (.ireturn, 1) := by decide +kernel
theorem dX0_candidate_0 : decode cX0_candidate 0 = .ok (.iload_n 1, 1) := by decide +kernel
theorem dX0_candidate_1 : decode cX0_candidate 1 = .ok (.ifCond .lt 11, 3) := by decide +kernel
theorem dX0_candidate_4 : decode cX0_candidate 4 = .ok (.iload_n 1, 1) := by decide +kernel
theorem dX0_candidate_5 : decode cX0_candidate 5 = .ok (.aload_n 0, 1) := by decide +kernel
theorem dX0_candidate_6 : decode cX0_candidate 6 = .ok (.getfield 42, 3) := by decide +kernel
theorem dX0_candidate_9 : decode cX0_candidate 9 = .ok (.if_icmp .lt 13, 3) := by decide +kernel
theorem dX0_candidate_12 : decode cX0_candidate 12 = .ok (.new 93, 3) := by decide +kernel
theorem dX0_candidate_15 : decode cX0_candidate 15 = .ok (.dup, 1) := by decide +kernel
theorem dX0_candidate_16 : decode cX0_candidate 16 = .ok (.ldc 95, 2) := by decide +kernel
theorem dX0_candidate_18 : decode cX0_candidate 18 = .ok (.invokespecial 97, 3) := by decide +kernel
theorem dX0_candidate_21 : decode cX0_candidate 21 = .ok (.athrow, 1) := by decide +kernel
theorem dX0_candidate_22 : decode cX0_candidate 22 = .ok (.aload_n 0, 1) := by decide +kernel
theorem dX0_candidate_23 : decode cX0_candidate 23 = .ok (.getfield 39, 3) := by decide +kernel
theorem dX0_candidate_26 : decode cX0_candidate 26 = .ok (.iload_n 1, 1) := by decide +kernel
theorem dX0_candidate_27 : decode cX0_candidate 27 = .ok (.iaload, 1) := by decide +kernel
theorem dX0_candidate_28 : decode cX0_candidate 28 = .ok (.ireturn, 1) := by decide +kernel
theorem dX0_at_0 : decode cX0_at 0 = .ok (.iload_n 2, 1) := by decide +kernel
theorem dX0_at_1 : decode cX0_at 1 = .ok (.invokestatic 52, 3) := by decide +kernel
theorem dX0_at_4 : decode cX0_at 4 = .ok (.iconst 0, 1) := by decide +kernel
theorem dX0_at_5 : decode cX0_at 5 = .ok (.istore_n 3, 1) := by decide +kernel
theorem dX0_at_6 : decode cX0_at 6 = .ok (.iconst 0, 1) := by decide +kernel
theorem dX0_at_7 : decode cX0_at 7 = .ok (.istore 4, 2) := by decide +kernel
theorem dX0_at_9 : decode cX0_at 9 = .ok (.iload 4, 2) := by decide +kernel
theorem dX0_at_11 : decode cX0_at 11 = .ok (.aload_n 0, 1) := by decide +kernel
theorem dX0_at_12 : decode cX0_at 12 = .ok (.getfield 42, 3) := by decide +kernel
theorem dX0_at_15 : decode cX0_at 15 = .ok (.if_icmp .ge 28, 3) := by decide +kernel
theorem dX0_at_18 : decode cX0_at 18 = .ok (.aload_n 0, 1) := by decide +kernel
theorem dX0_at_19 : decode cX0_at 19 = .ok (.aload_n 0, 1) := by decide +kernel
theorem dX0_at_20 : decode cX0_at 20 = .ok (.getfield 39, 3) := by decide +kernel
theorem dX0_at_23 : decode cX0_at 23 = .ok (.iload 4, 2) := by decide +kernel
theorem dX0_at_25 : decode cX0_at 25 = .ok (.iaload, 1) := by decide +kernel
theorem dX0_at_26 : decode cX0_at 26 = .ok (.iload_n 1, 1) := by decide +kernel
theorem dX0_at_27 : decode cX0_at 27 = .ok (.invokevirtual 100, 3) := by decide +kernel
theorem dX0_at_30 : decode cX0_at 30 = .ok (.iload_n 2, 1) := by decide +kernel
theorem dX0_at_31 : decode cX0_at 31 = .ok (.if_icmp .ne 6, 3) := by decide +kernel
theorem dX0_at_34 : decode cX0_at 34 = .ok (.iinc 3 1, 3) := by decide +kernel
theorem dX0_at_37 : decode cX0_at 37 = .ok (.iinc 4 1, 3) := by decide +kernel
theorem dX0_at_40 : decode cX0_at 40 = .ok (.goto (-31), 3) := by decide +kernel
theorem dX0_at_43 : decode cX0_at 43 = .ok (.iload_n 3, 1) := by decide +kernel
theorem dX0_at_44 : decode cX0_at 44 = .ok (.ireturn, 1) := by decide +kernel
theorem dX0_begins_0 : decode cX0_begins 0 = .ok (.iload_n 1, 1) := by decide +kernel
theorem dX0_begins_1 : decode cX0_begins 1 = .ok (.invokestatic 56, 3) := by decide +kernel
theorem dX0_begins_4 : decode cX0_begins 4 = .ok (.iconst 0, 1) := by decide +kernel
theorem dX0_begins_5 : decode cX0_begins 5 = .ok (.istore_n 2, 1) := by decide +kernel
theorem dX0_begins_6 : decode cX0_begins 6 = .ok (.iconst 0, 1) := by decide +kernel
theorem dX0_begins_7 : decode cX0_begins 7 = .ok (.istore_n 3, 1) := by decide +kernel
theorem dX0_begins_8 : decode cX0_begins 8 = .ok (.iload_n 3, 1) := by decide +kernel
theorem dX0_begins_9 : decode cX0_begins 9 = .ok (.aload_n 0, 1) := by decide +kernel
theorem dX0_begins_10 : decode cX0_begins 10 = .ok (.getfield 36, 3) := by decide +kernel
theorem dX0_begins_13 : decode cX0_begins 13 = .ok (.if_icmp .ge 30, 3) := by decide +kernel
theorem dX0_begins_16 : decode cX0_begins 16 = .ok (.aload_n 0, 1) := by decide +kernel
theorem dX0_begins_17 : decode cX0_begins 17 = .ok (.iload_n 3, 1) := by decide +kernel
theorem dX0_begins_18 : decode cX0_begins 18 = .ok (.iload_n 1, 1) := by decide +kernel
theorem dX0_begins_19 : decode cX0_begins 19 = .ok (.invokevirtual 87, 3) := by decide +kernel
theorem dX0_begins_22 : decode cX0_begins 22 = .ok (.ifCond .eq 15, 3) := by decide +kernel
theorem dX0_begins_25 : decode cX0_begins 25 = .ok (.aload_n 0, 1) := by decide +kernel
theorem dX0_begins_26 : decode cX0_begins 26 = .ok (.iload_n 3, 1) := by decide +kernel
theorem dX0_begins_27 : decode cX0_begins 27 = .ok (.iconst 0, 1) := by decide +kernel
theorem dX0_begins_28 : decode cX0_begins 28 = .ok (.invokevirtual 103, 3) := by decide +kernel
theorem dX0_begins_31 : decode cX0_begins 31 = .ok (.ifCond .eq 6, 3) := by decide +kernel
theorem dX0_begins_34 : decode cX0_begins 34 = .ok (.iinc 2 1, 3) := by decide +kernel
theorem dX0_begins_37 : decode cX0_begins 37 = .ok (.iinc 3 1, 3) := by decide +kernel
theorem dX0_begins_40 : decode cX0_begins 40 = .ok (.goto (-32), 3) := by decide +kernel
theorem dX0_begins_43 : decode cX0_begins 43 = .ok (.iload_n 2, 1) := by decide +kernel
theorem dX0_begins_44 : decode cX0_begins 44 = .ok (.ireturn, 1) := by decide +kernel
theorem dX0_ends_0 : decode cX0_ends 0 = .ok (.iload_n 1, 1) := by decide +kernel
theorem dX0_ends_1 : decode cX0_ends 1 = .ok (.invokestatic 56, 3) := by decide +kernel
theorem dX0_ends_4 : decode cX0_ends 4 = .ok (.iconst 0, 1) := by decide +kernel
theorem dX0_ends_5 : decode cX0_ends 5 = .ok (.istore_n 2, 1) := by decide +kernel
theorem dX0_ends_6 : decode cX0_ends 6 = .ok (.iconst 0, 1) := by decide +kernel
theorem dX0_ends_7 : decode cX0_ends 7 = .ok (.istore_n 3, 1) := by decide +kernel
theorem dX0_ends_8 : decode cX0_ends 8 = .ok (.iload_n 3, 1) := by decide +kernel
theorem dX0_ends_9 : decode cX0_ends 9 = .ok (.aload_n 0, 1) := by decide +kernel
theorem dX0_ends_10 : decode cX0_ends 10 = .ok (.getfield 36, 3) := by decide +kernel
theorem dX0_ends_13 : decode cX0_ends 13 = .ok (.if_icmp .ge 40, 3) := by decide +kernel
theorem dX0_ends_16 : decode cX0_ends 16 = .ok (.aload_n 0, 1) := by decide +kernel
theorem dX0_ends_17 : decode cX0_ends 17 = .ok (.iload_n 3, 1) := by decide +kernel
theorem dX0_ends_18 : decode cX0_ends 18 = .ok (.iload_n 1, 1) := by decide +kernel
theorem dX0_ends_19 : decode cX0_ends 19 = .ok (.invokevirtual 87, 3) := by decide +kernel
theorem dX0_ends_22 : decode cX0_ends 22 = .ok (.ifCond .eq 25, 3) := by decide +kernel
theorem dX0_ends_25 : decode cX0_ends 25 = .ok (.aload_n 0, 1) := by decide +kernel
theorem dX0_ends_26 : decode cX0_ends 26 = .ok (.iload_n 3, 1) := by decide +kernel
theorem dX0_ends_27 : decode cX0_ends 27 = .ok (.aload_n 0, 1) := by decide +kernel
theorem dX0_ends_28 : decode cX0_ends 28 = .ok (.getfield 23, 3) := by decide +kernel
theorem dX0_ends_31 : decode cX0_ends 31 = .ok (.iload_n 3, 1) := by decide +kernel
theorem dX0_ends_32 : decode cX0_ends 32 = .ok (.iaload, 1) := by decide +kernel
theorem dX0_ends_33 : decode cX0_ends 33 = .ok (.aload_n 0, 1) := by decide +kernel
theorem dX0_ends_34 : decode cX0_ends 34 = .ok (.getfield 13, 3) := by decide +kernel
theorem dX0_ends_37 : decode cX0_ends 37 = .ok (.isub, 1) := by decide +kernel
theorem dX0_ends_38 : decode cX0_ends 38 = .ok (.invokevirtual 103, 3) := by decide +kernel
theorem dX0_ends_41 : decode cX0_ends 41 = .ok (.ifCond .eq 6, 3) := by decide +kernel
theorem dX0_ends_44 : decode cX0_ends 44 = .ok (.iinc 2 1, 3) := by decide +kernel
theorem dX0_ends_47 : decode cX0_ends 47 = .ok (.iinc 3 1, 3) := by decide +kernel
theorem dX0_ends_50 : decode cX0_ends 50 = .ok (.goto (-42), 3) := by decide +kernel
theorem dX0_ends_53 : decode cX0_ends 53 = .ok (.iload_n 2, 1) := by decide +kernel
theorem dX0_ends_54 : decode cX0_ends 54 = .ok (.ireturn, 1) := by decide +kernel
theorem dX0_mixed_0 : decode cX0_mixed 0 = .ok (.iload_n 1, 1) := by decide +kernel
theorem dX0_mixed_1 : decode cX0_mixed 1 = .ok (.invokestatic 56, 3) := by decide +kernel
theorem dX0_mixed_4 : decode cX0_mixed 4 = .ok (.iconst 0, 1) := by decide +kernel
theorem dX0_mixed_5 : decode cX0_mixed 5 = .ok (.istore_n 2, 1) := by decide +kernel
theorem dX0_mixed_6 : decode cX0_mixed 6 = .ok (.iconst 0, 1) := by decide +kernel
theorem dX0_mixed_7 : decode cX0_mixed 7 = .ok (.istore_n 3, 1) := by decide +kernel
theorem dX0_mixed_8 : decode cX0_mixed 8 = .ok (.iload_n 3, 1) := by decide +kernel
theorem dX0_mixed_9 : decode cX0_mixed 9 = .ok (.aload_n 0, 1) := by decide +kernel
theorem dX0_mixed_10 : decode cX0_mixed 10 = .ok (.getfield 36, 3) := by decide +kernel
theorem dX0_mixed_13 : decode cX0_mixed 13 = .ok (.if_icmp .ge 29, 3) := by decide +kernel
theorem dX0_mixed_16 : decode cX0_mixed 16 = .ok (.aload_n 0, 1) := by decide +kernel
theorem dX0_mixed_17 : decode cX0_mixed 17 = .ok (.iload_n 3, 1) := by decide +kernel
theorem dX0_mixed_18 : decode cX0_mixed 18 = .ok (.iload_n 1, 1) := by decide +kernel
theorem dX0_mixed_19 : decode cX0_mixed 19 = .ok (.invokevirtual 87, 3) := by decide +kernel
theorem dX0_mixed_22 : decode cX0_mixed 22 = .ok (.ifCond .eq 14, 3) := by decide +kernel
theorem dX0_mixed_25 : decode cX0_mixed 25 = .ok (.aload_n 0, 1) := by decide +kernel
theorem dX0_mixed_26 : decode cX0_mixed 26 = .ok (.iload_n 3, 1) := by decide +kernel
theorem dX0_mixed_27 : decode cX0_mixed 27 = .ok (.invokevirtual 106, 3) := by decide +kernel
theorem dX0_mixed_30 : decode cX0_mixed 30 = .ok (.ifCond .eq 6, 3) := by decide +kernel
theorem dX0_mixed_33 : decode cX0_mixed 33 = .ok (.iinc 2 1, 3) := by decide +kernel
theorem dX0_mixed_36 : decode cX0_mixed 36 = .ok (.iinc 3 1, 3) := by decide +kernel
theorem dX0_mixed_39 : decode cX0_mixed 39 = .ok (.goto (-31), 3) := by decide +kernel
theorem dX0_mixed_42 : decode cX0_mixed 42 = .ok (.iload_n 2, 1) := by decide +kernel
theorem dX0_mixed_43 : decode cX0_mixed 43 = .ok (.ireturn, 1) := by decide +kernel
theorem dX0_many_0 : decode cX0_many 0 = .ok (.iload_n 1, 1) := by decide +kernel
theorem dX0_many_1 : decode cX0_many 1 = .ok (.invokestatic 56, 3) := by decide +kernel
theorem dX0_many_4 : decode cX0_many 4 = .ok (.iload_n 2, 1) := by decide +kernel
theorem dX0_many_5 : decode cX0_many 5 = .ok (.iconst 1, 1) := by decide +kernel
theorem dX0_many_6 : decode cX0_many 6 = .ok (.if_icmp .lt 9, 3) := by decide +kernel
theorem dX0_many_9 : decode cX0_many 9 = .ok (.iload_n 2, 1) := by decide +kernel
theorem dX0_many_10 : decode cX0_many 10 = .ok (.bipush 15, 2) := by decide +kernel
theorem dX0_many_12 : decode cX0_many 12 = .ok (.if_icmp .le 5, 3) := by decide +kernel
theorem dX0_many_15 : decode cX0_many 15 = .ok (.iconst (-1), 1) := by decide +kernel
theorem dX0_many_16 : decode cX0_many 16 = .ok (.ireturn, 1) := by decide +kernel
theorem dX0_many_17 : decode cX0_many 17 = .ok (.iconst 0, 1) := by decide +kernel
theorem dX0_many_18 : decode cX0_many 18 = .ok (.istore_n 3, 1) := by decide +kernel
theorem dX0_many_19 : decode cX0_many 19 = .ok (.iconst 0, 1) := by decide +kernel
theorem dX0_many_20 : decode cX0_many 20 = .ok (.istore 4, 2) := by decide +kernel
theorem dX0_many_22 : decode cX0_many 22 = .ok (.iload 4, 2) := by decide +kernel
theorem dX0_many_24 : decode cX0_many 24 = .ok (.aload_n 0, 1) := by decide +kernel
theorem dX0_many_25 : decode cX0_many 25 = .ok (.getfield 36, 3) := by decide +kernel
theorem dX0_many_28 : decode cX0_many 28 = .ok (.if_icmp .ge 33, 3) := by decide +kernel
theorem dX0_many_31 : decode cX0_many 31 = .ok (.aload_n 0, 1) := by decide +kernel
theorem dX0_many_32 : decode cX0_many 32 = .ok (.iload 4, 2) := by decide +kernel
theorem dX0_many_34 : decode cX0_many 34 = .ok (.iload_n 1, 1) := by decide +kernel
theorem dX0_many_35 : decode cX0_many 35 = .ok (.invokevirtual 79, 3) := by decide +kernel
theorem dX0_many_38 : decode cX0_many 38 = .ok (.ifCond .eq 17, 3) := by decide +kernel
theorem dX0_many_41 : decode cX0_many 41 = .ok (.aload_n 0, 1) := by decide +kernel
theorem dX0_many_42 : decode cX0_many 42 = .ok (.getfield 23, 3) := by decide +kernel
theorem dX0_many_45 : decode cX0_many 45 = .ok (.iload 4, 2) := by decide +kernel
theorem dX0_many_47 : decode cX0_many 47 = .ok (.iaload, 1) := by decide +kernel
theorem dX0_many_48 : decode cX0_many 48 = .ok (.iload_n 2, 1) := by decide +kernel
theorem dX0_many_49 : decode cX0_many 49 = .ok (.if_icmp .ne 6, 3) := by decide +kernel
theorem dX0_many_52 : decode cX0_many 52 = .ok (.iinc 3 1, 3) := by decide +kernel
theorem dX0_many_55 : decode cX0_many 55 = .ok (.iinc 4 1, 3) := by decide +kernel
theorem dX0_many_58 : decode cX0_many 58 = .ok (.goto (-36), 3) := by decide +kernel
theorem dX0_many_61 : decode cX0_many 61 = .ok (.iload_n 3, 1) := by decide +kernel
theorem dX0_many_62 : decode cX0_many 62 = .ok (.ireturn, 1) := by decide +kernel
theorem dX0_letters_0 : decode cX0_letters 0 = .ok (.iload_n 1, 1) := by decide +kernel
theorem dX0_letters_1 : decode cX0_letters 1 = .ok (.invokestatic 56, 3) := by decide +kernel
theorem dX0_letters_4 : decode cX0_letters 4 = .ok (.iload_n 2, 1) := by decide +kernel
theorem dX0_letters_5 : decode cX0_letters 5 = .ok (.invokestatic 52, 3) := by decide +kernel
theorem dX0_letters_8 : decode cX0_letters 8 = .ok (.iconst 0, 1) := by decide +kernel
theorem dX0_letters_9 : decode cX0_letters 9 = .ok (.istore_n 3, 1) := by decide +kernel
theorem dX0_letters_10 : decode cX0_letters 10 = .ok (.iconst 0, 1) := by decide +kernel
theorem dX0_letters_11 : decode cX0_letters 11 = .ok (.istore 4, 2) := by decide +kernel
theorem dX0_letters_13 : decode cX0_letters 13 = .ok (.iload 4, 2) := by decide +kernel
theorem dX0_letters_15 : decode cX0_letters 15 = .ok (.aload_n 0, 1) := by decide +kernel
theorem dX0_letters_16 : decode cX0_letters 16 = .ok (.getfield 36, 3) := by decide +kernel
theorem dX0_letters_19 : decode cX0_letters 19 = .ok (.if_icmp .ge 29, 3) := by decide +kernel
theorem dX0_letters_22 : decode cX0_letters 22 = .ok (.aload_n 0, 1) := by decide +kernel
theorem dX0_letters_23 : decode cX0_letters 23 = .ok (.iload 4, 2) := by decide +kernel
theorem dX0_letters_25 : decode cX0_letters 25 = .ok (.iload_n 1, 1) := by decide +kernel
theorem dX0_letters_26 : decode cX0_letters 26 = .ok (.invokevirtual 79, 3) := by decide +kernel
theorem dX0_letters_29 : decode cX0_letters 29 = .ok (.ifCond .eq 13, 3) := by decide +kernel
theorem dX0_letters_32 : decode cX0_letters 32 = .ok (.iload_n 3, 1) := by decide +kernel
theorem dX0_letters_33 : decode cX0_letters 33 = .ok (.aload_n 0, 1) := by decide +kernel
theorem dX0_letters_34 : decode cX0_letters 34 = .ok (.iload 4, 2) := by decide +kernel
theorem dX0_letters_36 : decode cX0_letters 36 = .ok (.iload_n 2, 1) := by decide +kernel
theorem dX0_letters_37 : decode cX0_letters 37 = .ok (.invokevirtual 109, 3) := by decide +kernel
theorem dX0_letters_40 : decode cX0_letters 40 = .ok (.iadd, 1) := by decide +kernel
theorem dX0_letters_41 : decode cX0_letters 41 = .ok (.istore_n 3, 1) := by decide +kernel
theorem dX0_letters_42 : decode cX0_letters 42 = .ok (.iinc 4 1, 3) := by decide +kernel
theorem dX0_letters_45 : decode cX0_letters 45 = .ok (.goto (-32), 3) := by decide +kernel
theorem dX0_letters_48 : decode cX0_letters 48 = .ok (.iload_n 3, 1) := by decide +kernel
theorem dX0_letters_49 : decode cX0_letters 49 = .ok (.ireturn, 1) := by decide +kernel
theorem dX0_letter_0 : decode cX0_letter 0 = .ok (.aload_n 0, 1) := by decide +kernel
theorem dX0_letter_1 : decode cX0_letter 1 = .ok (.iload_n 1, 1) := by decide +kernel
theorem dX0_letter_2 : decode cX0_letter 2 = .ok (.invokevirtual 112, 3) := by decide +kernel
theorem dX0_letter_5 : decode cX0_letter 5 = .ok (.aload_n 0, 1) := by decide +kernel
theorem dX0_letter_6 : decode cX0_letter 6 = .ok (.iload_n 1, 1) := by decide +kernel
theorem dX0_letter_7 : decode cX0_letter 7 = .ok (.iload_n 2, 1) := by decide +kernel
theorem dX0_letter_8 : decode cX0_letter 8 = .ok (.invokevirtual 100, 3) := by decide +kernel
theorem dX0_letter_11 : decode cX0_letter 11 = .ok (.ireturn, 1) := by decide +kernel
theorem dX0_tell_0 : decode cX0_tell 0 = .ok (.aload_n 0, 1) := by decide +kernel
theorem dX0_tell_1 : decode cX0_tell 1 = .ok (.iload_n 1, 1) := by decide +kernel
theorem dX0_tell_2 : decode cX0_tell 2 = .ok (.invokevirtual 112, 3) := by decide +kernel
theorem dX0_tell_5 : decode cX0_tell 5 = .ok (.iload_n 2, 1) := by decide +kernel
theorem dX0_tell_6 : decode cX0_tell 6 = .ok (.tableswitch 66 0 3 #[30, 37, 44, 59], 30) := by decide +kernel
theorem dX0_tell_36 : decode cX0_tell 36 = .ok (.aload_n 0, 1) := by decide +kernel
theorem dX0_tell_37 : decode cX0_tell 37 = .ok (.getfield 26, 3) := by decide +kernel
theorem dX0_tell_40 : decode cX0_tell 40 = .ok (.iload_n 1, 1) := by decide +kernel
theorem dX0_tell_41 : decode cX0_tell 41 = .ok (.iaload, 1) := by decide +kernel
theorem dX0_tell_42 : decode cX0_tell 42 = .ok (.ireturn, 1) := by decide +kernel
theorem dX0_tell_43 : decode cX0_tell 43 = .ok (.aload_n 0, 1) := by decide +kernel
theorem dX0_tell_44 : decode cX0_tell 44 = .ok (.getfield 29, 3) := by decide +kernel
theorem dX0_tell_47 : decode cX0_tell 47 = .ok (.iload_n 1, 1) := by decide +kernel
theorem dX0_tell_48 : decode cX0_tell 48 = .ok (.iaload, 1) := by decide +kernel
theorem dX0_tell_49 : decode cX0_tell 49 = .ok (.ireturn, 1) := by decide +kernel
theorem dX0_tell_50 : decode cX0_tell 50 = .ok (.aload_n 0, 1) := by decide +kernel
theorem dX0_tell_51 : decode cX0_tell 51 = .ok (.getfield 32, 3) := by decide +kernel
theorem dX0_tell_54 : decode cX0_tell 54 = .ok (.iload_n 1, 1) := by decide +kernel
theorem dX0_tell_55 : decode cX0_tell 55 = .ok (.baload, 1) := by decide +kernel
theorem dX0_tell_56 : decode cX0_tell 56 = .ok (.ifCond .eq 7, 3) := by decide +kernel
theorem dX0_tell_59 : decode cX0_tell 59 = .ok (.iconst 1, 1) := by decide +kernel
theorem dX0_tell_60 : decode cX0_tell 60 = .ok (.goto 4, 3) := by decide +kernel
theorem dX0_tell_63 : decode cX0_tell 63 = .ok (.iconst 0, 1) := by decide +kernel
theorem dX0_tell_64 : decode cX0_tell 64 = .ok (.ireturn, 1) := by decide +kernel
theorem dX0_tell_65 : decode cX0_tell 65 = .ok (.aload_n 0, 1) := by decide +kernel
theorem dX0_tell_66 : decode cX0_tell 66 = .ok (.getfield 23, 3) := by decide +kernel
theorem dX0_tell_69 : decode cX0_tell 69 = .ok (.iload_n 1, 1) := by decide +kernel
theorem dX0_tell_70 : decode cX0_tell 70 = .ok (.iaload, 1) := by decide +kernel
theorem dX0_tell_71 : decode cX0_tell 71 = .ok (.ireturn, 1) := by decide +kernel
theorem dX0_tell_72 : decode cX0_tell 72 = .ok (.iconst (-1), 1) := by decide +kernel
theorem dX0_tell_73 : decode cX0_tell 73 = .ok (.ireturn, 1) := by decide +kernel
theorem dX0_common_0 : decode cX0_common 0 = .ok (.iload_n 1, 1) := by decide +kernel
theorem dX0_common_1 : decode cX0_common 1 = .ok (.invokestatic 56, 3) := by decide +kernel
theorem dX0_common_4 : decode cX0_common 4 = .ok (.iconst (-1), 1) := by decide +kernel
theorem dX0_common_5 : decode cX0_common 5 = .ok (.istore_n 2, 1) := by decide +kernel
theorem dX0_common_6 : decode cX0_common 6 = .ok (.iconst 0, 1) := by decide +kernel
theorem dX0_common_7 : decode cX0_common 7 = .ok (.istore_n 3, 1) := by decide +kernel
theorem dX0_common_8 : decode cX0_common 8 = .ok (.iconst 0, 1) := by decide +kernel
theorem dX0_common_9 : decode cX0_common 9 = .ok (.istore 4, 2) := by decide +kernel
theorem dX0_common_11 : decode cX0_common 11 = .ok (.iload 4, 2) := by decide +kernel
theorem dX0_common_13 : decode cX0_common 13 = .ok (.aload_n 0, 1) := by decide +kernel
theorem dX0_common_14 : decode cX0_common 14 = .ok (.getfield 36, 3) := by decide +kernel
theorem dX0_common_17 : decode cX0_common 17 = .ok (.if_icmp .ge 50, 3) := by decide +kernel
theorem dX0_common_20 : decode cX0_common 20 = .ok (.aload_n 0, 1) := by decide +kernel
theorem dX0_common_21 : decode cX0_common 21 = .ok (.iload 4, 2) := by decide +kernel
theorem dX0_common_23 : decode cX0_common 23 = .ok (.iload_n 1, 1) := by decide +kernel
theorem dX0_common_24 : decode cX0_common 24 = .ok (.invokevirtual 87, 3) := by decide +kernel
theorem dX0_common_27 : decode cX0_common 27 = .ok (.ifCond .eq 34, 3) := by decide +kernel
theorem dX0_common_30 : decode cX0_common 30 = .ok (.iload_n 2, 1) := by decide +kernel
theorem dX0_common_31 : decode cX0_common 31 = .ok (.iconst (-1), 1) := by decide +kernel
theorem dX0_common_32 : decode cX0_common 32 = .ok (.if_icmp .ne 17, 3) := by decide +kernel
theorem dX0_common_35 : decode cX0_common 35 = .ok (.iload 4, 2) := by decide +kernel
theorem dX0_common_37 : decode cX0_common 37 = .ok (.istore_n 2, 1) := by decide +kernel
theorem dX0_common_38 : decode cX0_common 38 = .ok (.aload_n 0, 1) := by decide +kernel
theorem dX0_common_39 : decode cX0_common 39 = .ok (.getfield 23, 3) := by decide +kernel
theorem dX0_common_42 : decode cX0_common 42 = .ok (.iload 4, 2) := by decide +kernel
theorem dX0_common_44 : decode cX0_common 44 = .ok (.iaload, 1) := by decide +kernel
theorem dX0_common_45 : decode cX0_common 45 = .ok (.istore_n 3, 1) := by decide +kernel
theorem dX0_common_46 : decode cX0_common 46 = .ok (.goto 15, 3) := by decide +kernel
theorem dX0_common_49 : decode cX0_common 49 = .ok (.iload_n 3, 1) := by decide +kernel
theorem dX0_common_50 : decode cX0_common 50 = .ok (.aload_n 0, 1) := by decide +kernel
theorem dX0_common_51 : decode cX0_common 51 = .ok (.iload_n 2, 1) := by decide +kernel
theorem dX0_common_52 : decode cX0_common 52 = .ok (.iload 4, 2) := by decide +kernel
theorem dX0_common_54 : decode cX0_common 54 = .ok (.invokevirtual 115, 3) := by decide +kernel
theorem dX0_common_57 : decode cX0_common 57 = .ok (.invokestatic 118, 3) := by decide +kernel
theorem dX0_common_60 : decode cX0_common 60 = .ok (.istore_n 3, 1) := by decide +kernel
theorem dX0_common_61 : decode cX0_common 61 = .ok (.iinc 4 1, 3) := by decide +kernel
theorem dX0_common_64 : decode cX0_common 64 = .ok (.goto (-53), 3) := by decide +kernel
theorem dX0_common_67 : decode cX0_common 67 = .ok (.iload_n 3, 1) := by decide +kernel
theorem dX0_common_68 : decode cX0_common 68 = .ok (.ireturn, 1) := by decide +kernel
theorem dX0_isLetter_0 : decode cX0_isLetter 0 = .ok (.iload_n 0, 1) := by decide +kernel
theorem dX0_isLetter_1 : decode cX0_isLetter 1 = .ok (.bipush 97, 2) := by decide +kernel
theorem dX0_isLetter_3 : decode cX0_isLetter 3 = .ok (.if_icmp .lt 13, 3) := by decide +kernel
theorem dX0_isLetter_6 : decode cX0_isLetter 6 = .ok (.iload_n 0, 1) := by decide +kernel
theorem dX0_isLetter_7 : decode cX0_isLetter 7 = .ok (.bipush 123, 2) := by decide +kernel
theorem dX0_isLetter_9 : decode cX0_isLetter 9 = .ok (.if_icmp .ge 7, 3) := by decide +kernel
theorem dX0_isLetter_12 : decode cX0_isLetter 12 = .ok (.iconst 1, 1) := by decide +kernel
theorem dX0_isLetter_13 : decode cX0_isLetter 13 = .ok (.goto 4, 3) := by decide +kernel
theorem dX0_isLetter_16 : decode cX0_isLetter 16 = .ok (.iconst 0, 1) := by decide +kernel
theorem dX0_isLetter_17 : decode cX0_isLetter 17 = .ok (.ireturn, 1) := by decide +kernel
theorem dX0_needLetter_0 : decode cX0_needLetter 0 = .ok (.iload_n 0, 1) := by decide +kernel
theorem dX0_needLetter_1 : decode cX0_needLetter 1 = .ok (.invokestatic 48, 3) := by decide +kernel
theorem dX0_needLetter_4 : decode cX0_needLetter 4 = .ok (.ifCond .ne 13, 3) := by decide +kernel
theorem dX0_needLetter_7 : decode cX0_needLetter 7 = .ok (.new 93, 3) := by decide +kernel
theorem dX0_needLetter_10 : decode cX0_needLetter 10 = .ok (.dup, 1) := by decide +kernel
theorem dX0_needLetter_11 : decode cX0_needLetter 11 = .ok (.ldc 121, 2) := by decide +kernel
theorem dX0_needLetter_13 : decode cX0_needLetter 13 = .ok (.invokespecial 97, 3) := by decide +kernel
theorem dX0_needLetter_16 : decode cX0_needLetter 16 = .ok (.athrow, 1) := by decide +kernel
theorem dX0_needLetter_17 : decode cX0_needLetter 17 = .ok (.return_, 1) := by decide +kernel
theorem dX0_needList_0 : decode cX0_needList 0 = .ok (.iload_n 0, 1) := by decide +kernel
theorem dX0_needList_1 : decode cX0_needList 1 = .ok (.ifCond .lt 8, 3) := by decide +kernel
theorem dX0_needList_4 : decode cX0_needList 4 = .ok (.iload_n 0, 1) := by decide +kernel
theorem dX0_needList_5 : decode cX0_needList 5 = .ok (.iconst 4, 1) := by decide +kernel
theorem dX0_needList_6 : decode cX0_needList 6 = .ok (.if_icmp .lt 13, 3) := by decide +kernel
theorem dX0_needList_9 : decode cX0_needList 9 = .ok (.new 93, 3) := by decide +kernel
theorem dX0_needList_12 : decode cX0_needList 12 = .ok (.dup, 1) := by decide +kernel
theorem dX0_needList_13 : decode cX0_needList 13 = .ok (.ldc 123, 2) := by decide +kernel
theorem dX0_needList_15 : decode cX0_needList 15 = .ok (.invokespecial 97, 3) := by decide +kernel
theorem dX0_needList_18 : decode cX0_needList 18 = .ok (.athrow, 1) := by decide +kernel
theorem dX0_needList_19 : decode cX0_needList 19 = .ok (.return_, 1) := by decide +kernel
theorem dX0_needWord_0 : decode cX0_needWord 0 = .ok (.iload_n 1, 1) := by decide +kernel
theorem dX0_needWord_1 : decode cX0_needWord 1 = .ok (.ifCond .lt 11, 3) := by decide +kernel
theorem dX0_needWord_4 : decode cX0_needWord 4 = .ok (.iload_n 1, 1) := by decide +kernel
theorem dX0_needWord_5 : decode cX0_needWord 5 = .ok (.aload_n 0, 1) := by decide +kernel
theorem dX0_needWord_6 : decode cX0_needWord 6 = .ok (.getfield 36, 3) := by decide +kernel
theorem dX0_needWord_9 : decode cX0_needWord 9 = .ok (.if_icmp .lt 13, 3) := by decide +kernel
theorem dX0_needWord_12 : decode cX0_needWord 12 = .ok (.new 93, 3) := by decide +kernel
theorem dX0_needWord_15 : decode cX0_needWord 15 = .ok (.dup, 1) := by decide +kernel
theorem dX0_needWord_16 : decode cX0_needWord 16 = .ok (.ldc 125, 2) := by decide +kernel
theorem dX0_needWord_18 : decode cX0_needWord 18 = .ok (.invokespecial 97, 3) := by decide +kernel
theorem dX0_needWord_21 : decode cX0_needWord 21 = .ok (.athrow, 1) := by decide +kernel
theorem dX0_needWord_22 : decode cX0_needWord 22 = .ok (.return_, 1) := by decide +kernel
theorem dX0_isChosen_0 : decode cX0_isChosen 0 = .ok (.iload_n 0, 1) := by decide +kernel
theorem dX0_isChosen_1 : decode cX0_isChosen 1 = .ok (.ifCond .ne 17, 3) := by decide +kernel
theorem dX0_isChosen_4 : decode cX0_isChosen 4 = .ok (.iload_n 1, 1) := by decide +kernel
theorem dX0_isChosen_5 : decode cX0_isChosen 5 = .ok (.ifCond .ne 7, 3) := by decide +kernel
theorem dX0_isChosen_8 : decode cX0_isChosen 8 = .ok (.iload_n 2, 1) := by decide +kernel
theorem dX0_isChosen_9 : decode cX0_isChosen 9 = .ok (.ifCond .eq 7, 3) := by decide +kernel
theorem dX0_isChosen_12 : decode cX0_isChosen 12 = .ok (.iconst 1, 1) := by decide +kernel
theorem dX0_isChosen_13 : decode cX0_isChosen 13 = .ok (.goto 4, 3) := by decide +kernel
theorem dX0_isChosen_16 : decode cX0_isChosen 16 = .ok (.iconst 0, 1) := by decide +kernel
theorem dX0_isChosen_17 : decode cX0_isChosen 17 = .ok (.ireturn, 1) := by decide +kernel
theorem dX0_isChosen_18 : decode cX0_isChosen 18 = .ok (.iload_n 0, 1) := by decide +kernel
theorem dX0_isChosen_19 : decode cX0_isChosen 19 = .ok (.iconst 1, 1) := by decide +kernel
theorem dX0_isChosen_20 : decode cX0_isChosen 20 = .ok (.if_icmp .ne 17, 3) := by decide +kernel
theorem dX0_isChosen_23 : decode cX0_isChosen 23 = .ok (.iload_n 1, 1) := by decide +kernel
theorem dX0_isChosen_24 : decode cX0_isChosen 24 = .ok (.ifCond .eq 11, 3) := by decide +kernel
theorem dX0_isChosen_27 : decode cX0_isChosen 27 = .ok (.iload_n 2, 1) := by decide +kernel
theorem dX0_isChosen_28 : decode cX0_isChosen 28 = .ok (.ifCond .eq 7, 3) := by decide +kernel
theorem dX0_isChosen_31 : decode cX0_isChosen 31 = .ok (.iconst 1, 1) := by decide +kernel
theorem dX0_isChosen_32 : decode cX0_isChosen 32 = .ok (.goto 4, 3) := by decide +kernel
theorem dX0_isChosen_35 : decode cX0_isChosen 35 = .ok (.iconst 0, 1) := by decide +kernel
theorem dX0_isChosen_36 : decode cX0_isChosen 36 = .ok (.ireturn, 1) := by decide +kernel
theorem dX0_isChosen_37 : decode cX0_isChosen 37 = .ok (.iload_n 1, 1) := by decide +kernel
theorem dX0_isChosen_38 : decode cX0_isChosen 38 = .ok (.ifCond .eq 11, 3) := by decide +kernel
theorem dX0_isChosen_41 : decode cX0_isChosen 41 = .ok (.iload_n 2, 1) := by decide +kernel
theorem dX0_isChosen_42 : decode cX0_isChosen 42 = .ok (.ifCond .ne 7, 3) := by decide +kernel
theorem dX0_isChosen_45 : decode cX0_isChosen 45 = .ok (.iconst 1, 1) := by decide +kernel
theorem dX0_isChosen_46 : decode cX0_isChosen 46 = .ok (.goto 4, 3) := by decide +kernel
theorem dX0_isChosen_49 : decode cX0_isChosen 49 = .ok (.iconst 0, 1) := by decide +kernel
theorem dX0_isChosen_50 : decode cX0_isChosen 50 = .ok (.ireturn, 1) := by decide +kernel
theorem dX0_isOf_0 : decode cX0_isOf 0 = .ok (.aload_n 0, 1) := by decide +kernel
theorem dX0_isOf_1 : decode cX0_isOf 1 = .ok (.getfield 29, 3) := by decide +kernel
theorem dX0_isOf_4 : decode cX0_isOf 4 = .ok (.iload_n 1, 1) := by decide +kernel
theorem dX0_isOf_5 : decode cX0_isOf 5 = .ok (.iaload, 1) := by decide +kernel
theorem dX0_isOf_6 : decode cX0_isOf 6 = .ok (.iconst 1, 1) := by decide +kernel
theorem dX0_isOf_7 : decode cX0_isOf 7 = .ok (.iload_n 2, 1) := by decide +kernel
theorem dX0_isOf_8 : decode cX0_isOf 8 = .ok (.ishl, 1) := by decide +kernel
theorem dX0_isOf_9 : decode cX0_isOf 9 = .ok (.iand, 1) := by decide +kernel
theorem dX0_isOf_10 : decode cX0_isOf 10 = .ok (.ifCond .eq 7, 3) := by decide +kernel
theorem dX0_isOf_13 : decode cX0_isOf 13 = .ok (.iconst 1, 1) := by decide +kernel
theorem dX0_isOf_14 : decode cX0_isOf 14 = .ok (.goto 4, 3) := by decide +kernel
theorem dX0_isOf_17 : decode cX0_isOf 17 = .ok (.iconst 0, 1) := by decide +kernel
theorem dX0_isOf_18 : decode cX0_isOf 18 = .ok (.ireturn, 1) := by decide +kernel
theorem dX0_isFreeIn_0 : decode cX0_isFreeIn 0 = .ok (.aload_n 0, 1) := by decide +kernel
theorem dX0_isFreeIn_1 : decode cX0_isFreeIn 1 = .ok (.iload_n 1, 1) := by decide +kernel
theorem dX0_isFreeIn_2 : decode cX0_isFreeIn 2 = .ok (.iload_n 2, 1) := by decide +kernel
theorem dX0_isFreeIn_3 : decode cX0_isFreeIn 3 = .ok (.invokevirtual 79, 3) := by decide +kernel
theorem dX0_isFreeIn_6 : decode cX0_isFreeIn 6 = .ok (.ifCond .eq 16, 3) := by decide +kernel
theorem dX0_isFreeIn_9 : decode cX0_isFreeIn 9 = .ok (.aload_n 0, 1) := by decide +kernel
theorem dX0_isFreeIn_10 : decode cX0_isFreeIn 10 = .ok (.getfield 32, 3) := by decide +kernel
theorem dX0_isFreeIn_13 : decode cX0_isFreeIn 13 = .ok (.iload_n 1, 1) := by decide +kernel
theorem dX0_isFreeIn_14 : decode cX0_isFreeIn 14 = .ok (.baload, 1) := by decide +kernel
theorem dX0_isFreeIn_15 : decode cX0_isFreeIn 15 = .ok (.ifCond .ne 7, 3) := by decide +kernel
theorem dX0_isFreeIn_18 : decode cX0_isFreeIn 18 = .ok (.iconst 1, 1) := by decide +kernel
theorem dX0_isFreeIn_19 : decode cX0_isFreeIn 19 = .ok (.goto 4, 3) := by decide +kernel
theorem dX0_isFreeIn_22 : decode cX0_isFreeIn 22 = .ok (.iconst 0, 1) := by decide +kernel
theorem dX0_isFreeIn_23 : decode cX0_isFreeIn 23 = .ok (.ireturn, 1) := by decide +kernel
theorem dX0_foldedSign_0 : decode cX0_foldedSign 0 = .ok (.aload_n 0, 1) := by decide +kernel
theorem dX0_foldedSign_1 : decode cX0_foldedSign 1 = .ok (.getfield 9, 3) := by decide +kernel
theorem dX0_foldedSign_4 : decode cX0_foldedSign 4 = .ok (.iload_n 1, 1) := by decide +kernel
theorem dX0_foldedSign_5 : decode cX0_foldedSign 5 = .ok (.iaload, 1) := by decide +kernel
theorem dX0_foldedSign_6 : decode cX0_foldedSign 6 = .ok (.istore_n 2, 1) := by decide +kernel
theorem dX0_foldedSign_7 : decode cX0_foldedSign 7 = .ok (.iload_n 2, 1) := by decide +kernel
theorem dX0_foldedSign_8 : decode cX0_foldedSign 8 = .ok (.invokestatic 48, 3) := by decide +kernel
theorem dX0_foldedSign_11 : decode cX0_foldedSign 11 = .ok (.ifCond .eq 15, 3) := by decide +kernel
theorem dX0_foldedSign_14 : decode cX0_foldedSign 14 = .ok (.aload_n 0, 1) := by decide +kernel
theorem dX0_foldedSign_15 : decode cX0_foldedSign 15 = .ok (.getfield 17, 3) := by decide +kernel
theorem dX0_foldedSign_18 : decode cX0_foldedSign 18 = .ok (.iload_n 2, 1) := by decide +kernel
theorem dX0_foldedSign_19 : decode cX0_foldedSign 19 = .ok (.bipush 97, 2) := by decide +kernel
theorem dX0_foldedSign_21 : decode cX0_foldedSign 21 = .ok (.isub, 1) := by decide +kernel
theorem dX0_foldedSign_22 : decode cX0_foldedSign 22 = .ok (.iaload, 1) := by decide +kernel
theorem dX0_foldedSign_23 : decode cX0_foldedSign 23 = .ok (.goto 5, 3) := by decide +kernel
theorem dX0_foldedSign_26 : decode cX0_foldedSign 26 = .ok (.bipush 63, 2) := by decide +kernel
theorem dX0_foldedSign_28 : decode cX0_foldedSign 28 = .ok (.ireturn, 1) := by decide +kernel
theorem dX0_rowHasBlank_0 : decode cX0_rowHasBlank 0 = .ok (.iconst 0, 1) := by decide +kernel
theorem dX0_rowHasBlank_1 : decode cX0_rowHasBlank 1 = .ok (.istore_n 1, 1) := by decide +kernel
theorem dX0_rowHasBlank_2 : decode cX0_rowHasBlank 2 = .ok (.iload_n 1, 1) := by decide +kernel
theorem dX0_rowHasBlank_3 : decode cX0_rowHasBlank 3 = .ok (.aload_n 0, 1) := by decide +kernel
theorem dX0_rowHasBlank_4 : decode cX0_rowHasBlank 4 = .ok (.getfield 13, 3) := by decide +kernel
theorem dX0_rowHasBlank_7 : decode cX0_rowHasBlank 7 = .ok (.if_icmp .ge 22, 3) := by decide +kernel
theorem dX0_rowHasBlank_10 : decode cX0_rowHasBlank 10 = .ok (.aload_n 0, 1) := by decide +kernel
theorem dX0_rowHasBlank_11 : decode cX0_rowHasBlank 11 = .ok (.getfield 9, 3) := by decide +kernel
theorem dX0_rowHasBlank_14 : decode cX0_rowHasBlank 14 = .ok (.iload_n 1, 1) := by decide +kernel
theorem dX0_rowHasBlank_15 : decode cX0_rowHasBlank 15 = .ok (.iaload, 1) := by decide +kernel
theorem dX0_rowHasBlank_16 : decode cX0_rowHasBlank 16 = .ok (.bipush 63, 2) := by decide +kernel
theorem dX0_rowHasBlank_18 : decode cX0_rowHasBlank 18 = .ok (.if_icmp .ne 5, 3) := by decide +kernel
theorem dX0_rowHasBlank_21 : decode cX0_rowHasBlank 21 = .ok (.iconst 1, 1) := by decide +kernel
theorem dX0_rowHasBlank_22 : decode cX0_rowHasBlank 22 = .ok (.ireturn, 1) := by decide +kernel
theorem dX0_rowHasBlank_23 : decode cX0_rowHasBlank 23 = .ok (.iinc 1 1, 3) := by decide +kernel
theorem dX0_rowHasBlank_26 : decode cX0_rowHasBlank 26 = .ok (.goto (-24), 3) := by decide +kernel
theorem dX0_rowHasBlank_29 : decode cX0_rowHasBlank 29 = .ok (.iconst 0, 1) := by decide +kernel
theorem dX0_rowHasBlank_30 : decode cX0_rowHasBlank 30 = .ok (.ireturn, 1) := by decide +kernel
theorem dX0_letterOrNone_0 : decode cX0_letterOrNone 0 = .ok (.iload_n 2, 1) := by decide +kernel
theorem dX0_letterOrNone_1 : decode cX0_letterOrNone 1 = .ok (.ifCond .lt 13, 3) := by decide +kernel
theorem dX0_letterOrNone_4 : decode cX0_letterOrNone 4 = .ok (.iload_n 2, 1) := by decide +kernel
theorem dX0_letterOrNone_5 : decode cX0_letterOrNone 5 = .ok (.aload_n 0, 1) := by decide +kernel
theorem dX0_letterOrNone_6 : decode cX0_letterOrNone 6 = .ok (.getfield 23, 3) := by decide +kernel
theorem dX0_letterOrNone_9 : decode cX0_letterOrNone 9 = .ok (.iload_n 1, 1) := by decide +kernel
theorem dX0_letterOrNone_10 : decode cX0_letterOrNone 10 = .ok (.iaload, 1) := by decide +kernel
theorem dX0_letterOrNone_11 : decode cX0_letterOrNone 11 = .ok (.if_icmp .lt 5, 3) := by decide +kernel
theorem dX0_letterOrNone_14 : decode cX0_letterOrNone 14 = .ok (.iconst (-1), 1) := by decide +kernel
theorem dX0_letterOrNone_15 : decode cX0_letterOrNone 15 = .ok (.ireturn, 1) := by decide +kernel
theorem dX0_letterOrNone_16 : decode cX0_letterOrNone 16 = .ok (.aload_n 0, 1) := by decide +kernel
theorem dX0_letterOrNone_17 : decode cX0_letterOrNone 17 = .ok (.getfield 20, 3) := by decide +kernel
theorem dX0_letterOrNone_20 : decode cX0_letterOrNone 20 = .ok (.iload_n 1, 1) := by decide +kernel
theorem dX0_letterOrNone_21 : decode cX0_letterOrNone 21 = .ok (.bipush 15, 2) := by decide +kernel
theorem dX0_letterOrNone_23 : decode cX0_letterOrNone 23 = .ok (.imul, 1) := by decide +kernel
theorem dX0_letterOrNone_24 : decode cX0_letterOrNone 24 = .ok (.iload_n 2, 1) := by decide +kernel
theorem dX0_letterOrNone_25 : decode cX0_letterOrNone 25 = .ok (.iadd, 1) := by decide +kernel
theorem dX0_letterOrNone_26 : decode cX0_letterOrNone 26 = .ok (.iaload, 1) := by decide +kernel
theorem dX0_letterOrNone_27 : decode cX0_letterOrNone 27 = .ok (.ireturn, 1) := by decide +kernel
theorem dX0_timesInWord_0 : decode cX0_timesInWord 0 = .ok (.iconst 0, 1) := by decide +kernel
theorem dX0_timesInWord_1 : decode cX0_timesInWord 1 = .ok (.istore_n 3, 1) := by decide +kernel
theorem dX0_timesInWord_2 : decode cX0_timesInWord 2 = .ok (.iconst 0, 1) := by decide +kernel
theorem dX0_timesInWord_3 : decode cX0_timesInWord 3 = .ok (.istore 4, 2) := by decide +kernel
theorem dX0_timesInWord_5 : decode cX0_timesInWord 5 = .ok (.iload 4, 2) := by decide +kernel
theorem dX0_timesInWord_7 : decode cX0_timesInWord 7 = .ok (.aload_n 0, 1) := by decide +kernel
theorem dX0_timesInWord_8 : decode cX0_timesInWord 8 = .ok (.getfield 23, 3) := by decide +kernel
theorem dX0_timesInWord_11 : decode cX0_timesInWord 11 = .ok (.iload_n 1, 1) := by decide +kernel
theorem dX0_timesInWord_12 : decode cX0_timesInWord 12 = .ok (.iaload, 1) := by decide +kernel
theorem dX0_timesInWord_13 : decode cX0_timesInWord 13 = .ok (.if_icmp .ge 23, 3) := by decide +kernel
theorem dX0_timesInWord_16 : decode cX0_timesInWord 16 = .ok (.aload_n 0, 1) := by decide +kernel
theorem dX0_timesInWord_17 : decode cX0_timesInWord 17 = .ok (.iload_n 1, 1) := by decide +kernel
theorem dX0_timesInWord_18 : decode cX0_timesInWord 18 = .ok (.iload 4, 2) := by decide +kernel
theorem dX0_timesInWord_20 : decode cX0_timesInWord 20 = .ok (.invokevirtual 100, 3) := by decide +kernel
theorem dX0_timesInWord_23 : decode cX0_timesInWord 23 = .ok (.iload_n 2, 1) := by decide +kernel
theorem dX0_timesInWord_24 : decode cX0_timesInWord 24 = .ok (.if_icmp .ne 6, 3) := by decide +kernel
theorem dX0_timesInWord_27 : decode cX0_timesInWord 27 = .ok (.iinc 3 1, 3) := by decide +kernel
theorem dX0_timesInWord_30 : decode cX0_timesInWord 30 = .ok (.iinc 4 1, 3) := by decide +kernel
theorem dX0_timesInWord_33 : decode cX0_timesInWord 33 = .ok (.goto (-28), 3) := by decide +kernel
theorem dX0_timesInWord_36 : decode cX0_timesInWord 36 = .ok (.iload_n 3, 1) := by decide +kernel
theorem dX0_timesInWord_37 : decode cX0_timesInWord 37 = .ok (.ireturn, 1) := by decide +kernel
theorem dX0_hasRowAt_0 : decode cX0_hasRowAt 0 = .ok (.iload_n 2, 1) := by decide +kernel
theorem dX0_hasRowAt_1 : decode cX0_hasRowAt 1 = .ok (.ifCond .lt 18, 3) := by decide +kernel
theorem dX0_hasRowAt_4 : decode cX0_hasRowAt 4 = .ok (.iload_n 2, 1) := by decide +kernel
theorem dX0_hasRowAt_5 : decode cX0_hasRowAt 5 = .ok (.aload_n 0, 1) := by decide +kernel
theorem dX0_hasRowAt_6 : decode cX0_hasRowAt 6 = .ok (.getfield 13, 3) := by decide +kernel
theorem dX0_hasRowAt_9 : decode cX0_hasRowAt 9 = .ok (.iadd, 1) := by decide +kernel
theorem dX0_hasRowAt_10 : decode cX0_hasRowAt 10 = .ok (.aload_n 0, 1) := by decide +kernel
theorem dX0_hasRowAt_11 : decode cX0_hasRowAt 11 = .ok (.getfield 23, 3) := by decide +kernel
theorem dX0_hasRowAt_14 : decode cX0_hasRowAt 14 = .ok (.iload_n 1, 1) := by decide +kernel
theorem dX0_hasRowAt_15 : decode cX0_hasRowAt 15 = .ok (.iaload, 1) := by decide +kernel
theorem dX0_hasRowAt_16 : decode cX0_hasRowAt 16 = .ok (.if_icmp .le 5, 3) := by decide +kernel
theorem dX0_hasRowAt_19 : decode cX0_hasRowAt 19 = .ok (.iconst 0, 1) := by decide +kernel
theorem dX0_hasRowAt_20 : decode cX0_hasRowAt 20 = .ok (.ireturn, 1) := by decide +kernel
theorem dX0_hasRowAt_21 : decode cX0_hasRowAt 21 = .ok (.iconst 0, 1) := by decide +kernel
theorem dX0_hasRowAt_22 : decode cX0_hasRowAt 22 = .ok (.istore_n 3, 1) := by decide +kernel
theorem dX0_hasRowAt_23 : decode cX0_hasRowAt 23 = .ok (.iload_n 3, 1) := by decide +kernel
theorem dX0_hasRowAt_24 : decode cX0_hasRowAt 24 = .ok (.aload_n 0, 1) := by decide +kernel
theorem dX0_hasRowAt_25 : decode cX0_hasRowAt 25 = .ok (.getfield 13, 3) := by decide +kernel
theorem dX0_hasRowAt_28 : decode cX0_hasRowAt 28 = .ok (.if_icmp .ge 38, 3) := by decide +kernel
theorem dX0_hasRowAt_31 : decode cX0_hasRowAt 31 = .ok (.aload_n 0, 1) := by decide +kernel
theorem dX0_hasRowAt_32 : decode cX0_hasRowAt 32 = .ok (.iload_n 3, 1) := by decide +kernel
theorem dX0_hasRowAt_33 : decode cX0_hasRowAt 33 = .ok (.invokevirtual 127, 3) := by decide +kernel
theorem dX0_hasRowAt_36 : decode cX0_hasRowAt 36 = .ok (.istore 4, 2) := by decide +kernel
theorem dX0_hasRowAt_38 : decode cX0_hasRowAt 38 = .ok (.iload 4, 2) := by decide +kernel
theorem dX0_hasRowAt_40 : decode cX0_hasRowAt 40 = .ok (.bipush 63, 2) := by decide +kernel
theorem dX0_hasRowAt_42 : decode cX0_hasRowAt 42 = .ok (.if_icmp .eq 18, 3) := by decide +kernel
theorem dX0_hasRowAt_45 : decode cX0_hasRowAt 45 = .ok (.iload 4, 2) := by decide +kernel
theorem dX0_hasRowAt_47 : decode cX0_hasRowAt 47 = .ok (.aload_n 0, 1) := by decide +kernel
theorem dX0_hasRowAt_48 : decode cX0_hasRowAt 48 = .ok (.iload_n 1, 1) := by decide +kernel
theorem dX0_hasRowAt_49 : decode cX0_hasRowAt 49 = .ok (.iload_n 2, 1) := by decide +kernel
theorem dX0_hasRowAt_50 : decode cX0_hasRowAt 50 = .ok (.iload_n 3, 1) := by decide +kernel
theorem dX0_hasRowAt_51 : decode cX0_hasRowAt 51 = .ok (.iadd, 1) := by decide +kernel
theorem dX0_hasRowAt_52 : decode cX0_hasRowAt 52 = .ok (.invokevirtual 100, 3) := by decide +kernel
theorem dX0_hasRowAt_55 : decode cX0_hasRowAt 55 = .ok (.if_icmp .eq 5, 3) := by decide +kernel
theorem dX0_hasRowAt_58 : decode cX0_hasRowAt 58 = .ok (.iconst 0, 1) := by decide +kernel
theorem dX0_hasRowAt_59 : decode cX0_hasRowAt 59 = .ok (.ireturn, 1) := by decide +kernel
theorem dX0_hasRowAt_60 : decode cX0_hasRowAt 60 = .ok (.iinc 3 1, 3) := by decide +kernel
theorem dX0_hasRowAt_63 : decode cX0_hasRowAt 63 = .ok (.goto (-40), 3) := by decide +kernel
theorem dX0_hasRowAt_66 : decode cX0_hasRowAt 66 = .ok (.iconst 1, 1) := by decide +kernel
theorem dX0_hasRowAt_67 : decode cX0_hasRowAt 67 = .ok (.ireturn, 1) := by decide +kernel
theorem dX0_fits_0 : decode cX0_fits 0 = .ok (.aload_n 0, 1) := by decide +kernel
theorem dX0_fits_1 : decode cX0_fits 1 = .ok (.getfield 23, 3) := by decide +kernel
theorem dX0_fits_4 : decode cX0_fits 4 = .ok (.iload_n 1, 1) := by decide +kernel
theorem dX0_fits_5 : decode cX0_fits 5 = .ok (.iaload, 1) := by decide +kernel
theorem dX0_fits_6 : decode cX0_fits 6 = .ok (.aload_n 0, 1) := by decide +kernel
theorem dX0_fits_7 : decode cX0_fits 7 = .ok (.getfield 13, 3) := by decide +kernel
theorem dX0_fits_10 : decode cX0_fits 10 = .ok (.if_icmp .ne 16, 3) := by decide +kernel
theorem dX0_fits_13 : decode cX0_fits 13 = .ok (.aload_n 0, 1) := by decide +kernel
theorem dX0_fits_14 : decode cX0_fits 14 = .ok (.iload_n 1, 1) := by decide +kernel
theorem dX0_fits_15 : decode cX0_fits 15 = .ok (.iconst 0, 1) := by decide +kernel
theorem dX0_fits_16 : decode cX0_fits 16 = .ok (.invokevirtual 103, 3) := by decide +kernel
theorem dX0_fits_19 : decode cX0_fits 19 = .ok (.ifCond .eq 7, 3) := by decide +kernel
theorem dX0_fits_22 : decode cX0_fits 22 = .ok (.iconst 1, 1) := by decide +kernel
theorem dX0_fits_23 : decode cX0_fits 23 = .ok (.goto 4, 3) := by decide +kernel
theorem dX0_fits_26 : decode cX0_fits 26 = .ok (.iconst 0, 1) := by decide +kernel
theorem dX0_fits_27 : decode cX0_fits 27 = .ok (.ireturn, 1) := by decide +kernel
theorem dX0_wordOfRow_0 : decode cX0_wordOfRow 0 = .ok (.iconst 0, 1) := by decide +kernel
theorem dX0_wordOfRow_1 : decode cX0_wordOfRow 1 = .ok (.istore_n 1, 1) := by decide +kernel
theorem dX0_wordOfRow_2 : decode cX0_wordOfRow 2 = .ok (.iload_n 1, 1) := by decide +kernel
theorem dX0_wordOfRow_3 : decode cX0_wordOfRow 3 = .ok (.aload_n 0, 1) := by decide +kernel
theorem dX0_wordOfRow_4 : decode cX0_wordOfRow 4 = .ok (.getfield 36, 3) := by decide +kernel
theorem dX0_wordOfRow_7 : decode cX0_wordOfRow 7 = .ok (.if_icmp .ge 19, 3) := by decide +kernel
theorem dX0_wordOfRow_10 : decode cX0_wordOfRow 10 = .ok (.aload_n 0, 1) := by decide +kernel
theorem dX0_wordOfRow_11 : decode cX0_wordOfRow 11 = .ok (.iload_n 1, 1) := by decide +kernel
theorem dX0_wordOfRow_12 : decode cX0_wordOfRow 12 = .ok (.invokevirtual 76, 3) := by decide +kernel
theorem dX0_wordOfRow_15 : decode cX0_wordOfRow 15 = .ok (.ifCond .eq 5, 3) := by decide +kernel
theorem dX0_wordOfRow_18 : decode cX0_wordOfRow 18 = .ok (.iload_n 1, 1) := by decide +kernel
theorem dX0_wordOfRow_19 : decode cX0_wordOfRow 19 = .ok (.ireturn, 1) := by decide +kernel
theorem dX0_wordOfRow_20 : decode cX0_wordOfRow 20 = .ok (.iinc 1 1, 3) := by decide +kernel
theorem dX0_wordOfRow_23 : decode cX0_wordOfRow 23 = .ok (.goto (-21), 3) := by decide +kernel
theorem dX0_wordOfRow_26 : decode cX0_wordOfRow 26 = .ok (.iconst (-1), 1) := by decide +kernel
theorem dX0_wordOfRow_27 : decode cX0_wordOfRow 27 = .ok (.ireturn, 1) := by decide +kernel
theorem dX0_addWordOfRow_0 : decode cX0_addWordOfRow 0 = .ok (.aload_n 0, 1) := by decide +kernel
theorem dX0_addWordOfRow_1 : decode cX0_addWordOfRow 1 = .ok (.getfield 36, 3) := by decide +kernel
theorem dX0_addWordOfRow_4 : decode cX0_addWordOfRow 4 = .ok (.istore_n 1, 1) := by decide +kernel
theorem dX0_addWordOfRow_5 : decode cX0_addWordOfRow 5 = .ok (.iconst 0, 1) := by decide +kernel
theorem dX0_addWordOfRow_6 : decode cX0_addWordOfRow 6 = .ok (.istore_n 2, 1) := by decide +kernel
theorem dX0_addWordOfRow_7 : decode cX0_addWordOfRow 7 = .ok (.iload_n 2, 1) := by decide +kernel
theorem dX0_addWordOfRow_8 : decode cX0_addWordOfRow 8 = .ok (.aload_n 0, 1) := by decide +kernel
theorem dX0_addWordOfRow_9 : decode cX0_addWordOfRow 9 = .ok (.getfield 13, 3) := by decide +kernel
theorem dX0_addWordOfRow_12 : decode cX0_addWordOfRow 12 = .ok (.if_icmp .ge 25, 3) := by decide +kernel
theorem dX0_addWordOfRow_15 : decode cX0_addWordOfRow 15 = .ok (.aload_n 0, 1) := by decide +kernel
theorem dX0_addWordOfRow_16 : decode cX0_addWordOfRow 16 = .ok (.getfield 20, 3) := by decide +kernel
theorem dX0_addWordOfRow_19 : decode cX0_addWordOfRow 19 = .ok (.iload_n 1, 1) := by decide +kernel
theorem dX0_addWordOfRow_20 : decode cX0_addWordOfRow 20 = .ok (.bipush 15, 2) := by decide +kernel
theorem dX0_addWordOfRow_22 : decode cX0_addWordOfRow 22 = .ok (.imul, 1) := by decide +kernel
theorem dX0_addWordOfRow_23 : decode cX0_addWordOfRow 23 = .ok (.iload_n 2, 1) := by decide +kernel
theorem dX0_addWordOfRow_24 : decode cX0_addWordOfRow 24 = .ok (.iadd, 1) := by decide +kernel
theorem dX0_addWordOfRow_25 : decode cX0_addWordOfRow 25 = .ok (.aload_n 0, 1) := by decide +kernel
theorem dX0_addWordOfRow_26 : decode cX0_addWordOfRow 26 = .ok (.iload_n 2, 1) := by decide +kernel
theorem dX0_addWordOfRow_27 : decode cX0_addWordOfRow 27 = .ok (.invokevirtual 127, 3) := by decide +kernel
theorem dX0_addWordOfRow_30 : decode cX0_addWordOfRow 30 = .ok (.iastore, 1) := by decide +kernel
theorem dX0_addWordOfRow_31 : decode cX0_addWordOfRow 31 = .ok (.iinc 2 1, 3) := by decide +kernel
theorem dX0_addWordOfRow_34 : decode cX0_addWordOfRow 34 = .ok (.goto (-27), 3) := by decide +kernel
theorem dX0_addWordOfRow_37 : decode cX0_addWordOfRow 37 = .ok (.aload_n 0, 1) := by decide +kernel
theorem dX0_addWordOfRow_38 : decode cX0_addWordOfRow 38 = .ok (.getfield 23, 3) := by decide +kernel
theorem dX0_addWordOfRow_41 : decode cX0_addWordOfRow 41 = .ok (.iload_n 1, 1) := by decide +kernel
theorem dX0_addWordOfRow_42 : decode cX0_addWordOfRow 42 = .ok (.aload_n 0, 1) := by decide +kernel
theorem dX0_addWordOfRow_43 : decode cX0_addWordOfRow 43 = .ok (.getfield 13, 3) := by decide +kernel
theorem dX0_addWordOfRow_46 : decode cX0_addWordOfRow 46 = .ok (.iastore, 1) := by decide +kernel
theorem dX0_addWordOfRow_47 : decode cX0_addWordOfRow 47 = .ok (.aload_n 0, 1) := by decide +kernel
theorem dX0_addWordOfRow_48 : decode cX0_addWordOfRow 48 = .ok (.dup, 1) := by decide +kernel
theorem dX0_addWordOfRow_49 : decode cX0_addWordOfRow 49 = .ok (.getfield 36, 3) := by decide +kernel
theorem dX0_addWordOfRow_52 : decode cX0_addWordOfRow 52 = .ok (.iconst 1, 1) := by decide +kernel
theorem dX0_addWordOfRow_53 : decode cX0_addWordOfRow 53 = .ok (.iadd, 1) := by decide +kernel
theorem dX0_addWordOfRow_54 : decode cX0_addWordOfRow 54 = .ok (.putfield 36, 3) := by decide +kernel
theorem dX0_addWordOfRow_57 : decode cX0_addWordOfRow 57 = .ok (.iload_n 1, 1) := by decide +kernel
theorem dX0_addWordOfRow_58 : decode cX0_addWordOfRow 58 = .ok (.ireturn, 1) := by decide +kernel
theorem dX0_addCandidate_0 : decode cX0_addCandidate 0 = .ok (.aload_n 0, 1) := by decide +kernel
theorem dX0_addCandidate_1 : decode cX0_addCandidate 1 = .ok (.getfield 42, 3) := by decide +kernel
theorem dX0_addCandidate_4 : decode cX0_addCandidate 4 = .ok (.istore_n 2, 1) := by decide +kernel
theorem dX0_addCandidate_5 : decode cX0_addCandidate 5 = .ok (.iload_n 2, 1) := by decide +kernel
theorem dX0_addCandidate_6 : decode cX0_addCandidate 6 = .ok (.ifCond .le 39, 3) := by decide +kernel
theorem dX0_addCandidate_9 : decode cX0_addCandidate 9 = .ok (.aload_n 0, 1) := by decide +kernel
theorem dX0_addCandidate_10 : decode cX0_addCandidate 10 = .ok (.iload_n 1, 1) := by decide +kernel
theorem dX0_addCandidate_11 : decode cX0_addCandidate 11 = .ok (.aload_n 0, 1) := by decide +kernel
theorem dX0_addCandidate_12 : decode cX0_addCandidate 12 = .ok (.getfield 39, 3) := by decide +kernel
theorem dX0_addCandidate_15 : decode cX0_addCandidate 15 = .ok (.iload_n 2, 1) := by decide +kernel
theorem dX0_addCandidate_16 : decode cX0_addCandidate 16 = .ok (.iconst 1, 1) := by decide +kernel
theorem dX0_addCandidate_17 : decode cX0_addCandidate 17 = .ok (.isub, 1) := by decide +kernel
theorem dX0_addCandidate_18 : decode cX0_addCandidate 18 = .ok (.iaload, 1) := by decide +kernel
theorem dX0_addCandidate_19 : decode cX0_addCandidate 19 = .ok (.invokevirtual 131, 3) := by decide +kernel
theorem dX0_addCandidate_22 : decode cX0_addCandidate 22 = .ok (.ifCond .eq 23, 3) := by decide +kernel
theorem dX0_addCandidate_25 : decode cX0_addCandidate 25 = .ok (.aload_n 0, 1) := by decide +kernel
theorem dX0_addCandidate_26 : decode cX0_addCandidate 26 = .ok (.getfield 39, 3) := by decide +kernel
theorem dX0_addCandidate_29 : decode cX0_addCandidate 29 = .ok (.iload_n 2, 1) := by decide +kernel
theorem dX0_addCandidate_30 : decode cX0_addCandidate 30 = .ok (.aload_n 0, 1) := by decide +kernel
theorem dX0_addCandidate_31 : decode cX0_addCandidate 31 = .ok (.getfield 39, 3) := by decide +kernel
theorem dX0_addCandidate_34 : decode cX0_addCandidate 34 = .ok (.iload_n 2, 1) := by decide +kernel
theorem dX0_addCandidate_35 : decode cX0_addCandidate 35 = .ok (.iconst 1, 1) := by decide +kernel
theorem dX0_addCandidate_36 : decode cX0_addCandidate 36 = .ok (.isub, 1) := by decide +kernel
theorem dX0_addCandidate_37 : decode cX0_addCandidate 37 = .ok (.iaload, 1) := by decide +kernel
theorem dX0_addCandidate_38 : decode cX0_addCandidate 38 = .ok (.iastore, 1) := by decide +kernel
theorem dX0_addCandidate_39 : decode cX0_addCandidate 39 = .ok (.iinc 2 (-1), 3) := by decide +kernel
theorem dX0_addCandidate_42 : decode cX0_addCandidate 42 = .ok (.goto (-37), 3) := by decide +kernel
theorem dX0_addCandidate_45 : decode cX0_addCandidate 45 = .ok (.aload_n 0, 1) := by decide +kernel
theorem dX0_addCandidate_46 : decode cX0_addCandidate 46 = .ok (.getfield 39, 3) := by decide +kernel
theorem dX0_addCandidate_49 : decode cX0_addCandidate 49 = .ok (.iload_n 2, 1) := by decide +kernel
theorem dX0_addCandidate_50 : decode cX0_addCandidate 50 = .ok (.iload_n 1, 1) := by decide +kernel
theorem dX0_addCandidate_51 : decode cX0_addCandidate 51 = .ok (.iastore, 1) := by decide +kernel
theorem dX0_addCandidate_52 : decode cX0_addCandidate 52 = .ok (.aload_n 0, 1) := by decide +kernel
theorem dX0_addCandidate_53 : decode cX0_addCandidate 53 = .ok (.dup, 1) := by decide +kernel
theorem dX0_addCandidate_54 : decode cX0_addCandidate 54 = .ok (.getfield 42, 3) := by decide +kernel
theorem dX0_addCandidate_57 : decode cX0_addCandidate 57 = .ok (.iconst 1, 1) := by decide +kernel
theorem dX0_addCandidate_58 : decode cX0_addCandidate 58 = .ok (.iadd, 1) := by decide +kernel
theorem dX0_addCandidate_59 : decode cX0_addCandidate 59 = .ok (.putfield 42, 3) := by decide +kernel
theorem dX0_addCandidate_62 : decode cX0_addCandidate 62 = .ok (.return_, 1) := by decide +kernel
theorem dX0_isAhead_0 : decode cX0_isAhead 0 = .ok (.aload_n 0, 1) := by decide +kernel
theorem dX0_isAhead_1 : decode cX0_isAhead 1 = .ok (.getfield 26, 3) := by decide +kernel
theorem dX0_isAhead_4 : decode cX0_isAhead 4 = .ok (.iload_n 1, 1) := by decide +kernel
theorem dX0_isAhead_5 : decode cX0_isAhead 5 = .ok (.iaload, 1) := by decide +kernel
theorem dX0_isAhead_6 : decode cX0_isAhead 6 = .ok (.aload_n 0, 1) := by decide +kernel
theorem dX0_isAhead_7 : decode cX0_isAhead 7 = .ok (.getfield 26, 3) := by decide +kernel
theorem dX0_isAhead_10 : decode cX0_isAhead 10 = .ok (.iload_n 2, 1) := by decide +kernel
theorem dX0_isAhead_11 : decode cX0_isAhead 11 = .ok (.iaload, 1) := by decide +kernel
theorem dX0_isAhead_12 : decode cX0_isAhead 12 = .ok (.if_icmp .eq 24, 3) := by decide +kernel
theorem dX0_isAhead_15 : decode cX0_isAhead 15 = .ok (.aload_n 0, 1) := by decide +kernel
theorem dX0_isAhead_16 : decode cX0_isAhead 16 = .ok (.getfield 26, 3) := by decide +kernel
theorem dX0_isAhead_19 : decode cX0_isAhead 19 = .ok (.iload_n 1, 1) := by decide +kernel
theorem dX0_isAhead_20 : decode cX0_isAhead 20 = .ok (.iaload, 1) := by decide +kernel
theorem dX0_isAhead_21 : decode cX0_isAhead 21 = .ok (.aload_n 0, 1) := by decide +kernel
theorem dX0_isAhead_22 : decode cX0_isAhead 22 = .ok (.getfield 26, 3) := by decide +kernel
theorem dX0_isAhead_25 : decode cX0_isAhead 25 = .ok (.iload_n 2, 1) := by decide +kernel
theorem dX0_isAhead_26 : decode cX0_isAhead 26 = .ok (.iaload, 1) := by decide +kernel
theorem dX0_isAhead_27 : decode cX0_isAhead 27 = .ok (.if_icmp .le 7, 3) := by decide +kernel
theorem dX0_isAhead_30 : decode cX0_isAhead 30 = .ok (.iconst 1, 1) := by decide +kernel
theorem dX0_isAhead_31 : decode cX0_isAhead 31 = .ok (.goto 4, 3) := by decide +kernel
theorem dX0_isAhead_34 : decode cX0_isAhead 34 = .ok (.iconst 0, 1) := by decide +kernel
theorem dX0_isAhead_35 : decode cX0_isAhead 35 = .ok (.ireturn, 1) := by decide +kernel
theorem dX0_isAhead_36 : decode cX0_isAhead 36 = .ok (.aload_n 0, 1) := by decide +kernel
theorem dX0_isAhead_37 : decode cX0_isAhead 37 = .ok (.iload_n 1, 1) := by decide +kernel
theorem dX0_isAhead_38 : decode cX0_isAhead 38 = .ok (.iload_n 2, 1) := by decide +kernel
theorem dX0_isAhead_39 : decode cX0_isAhead 39 = .ok (.invokevirtual 115, 3) := by decide +kernel
theorem dX0_isAhead_42 : decode cX0_isAhead 42 = .ok (.istore_n 3, 1) := by decide +kernel
theorem dX0_isAhead_43 : decode cX0_isAhead 43 = .ok (.aload_n 0, 1) := by decide +kernel
theorem dX0_isAhead_44 : decode cX0_isAhead 44 = .ok (.iload_n 1, 1) := by decide +kernel
theorem dX0_isAhead_45 : decode cX0_isAhead 45 = .ok (.iload_n 3, 1) := by decide +kernel
theorem dX0_isAhead_46 : decode cX0_isAhead 46 = .ok (.invokevirtual 100, 3) := by decide +kernel
theorem dX0_isAhead_49 : decode cX0_isAhead 49 = .ok (.aload_n 0, 1) := by decide +kernel
theorem dX0_isAhead_50 : decode cX0_isAhead 50 = .ok (.iload_n 2, 1) := by decide +kernel
theorem dX0_isAhead_51 : decode cX0_isAhead 51 = .ok (.iload_n 3, 1) := by decide +kernel
theorem dX0_isAhead_52 : decode cX0_isAhead 52 = .ok (.invokevirtual 100, 3) := by decide +kernel
theorem dX0_isAhead_55 : decode cX0_isAhead 55 = .ok (.if_icmp .ge 7, 3) := by decide +kernel
theorem dX0_isAhead_58 : decode cX0_isAhead 58 = .ok (.iconst 1, 1) := by decide +kernel
theorem dX0_isAhead_59 : decode cX0_isAhead 59 = .ok (.goto 4, 3) := by decide +kernel
theorem dX0_isAhead_62 : decode cX0_isAhead 62 = .ok (.iconst 0, 1) := by decide +kernel
theorem dX0_isAhead_63 : decode cX0_isAhead 63 = .ok (.ireturn, 1) := by decide +kernel
theorem dX0_sharedBeginning_0 : decode cX0_sharedBeginning 0 = .ok (.aload_n 0, 1) := by decide +kernel
theorem dX0_sharedBeginning_1 : decode cX0_sharedBeginning 1 = .ok (.getfield 23, 3) := by decide +kernel
theorem dX0_sharedBeginning_4 : decode cX0_sharedBeginning 4 = .ok (.iload_n 1, 1) := by decide +kernel
theorem dX0_sharedBeginning_5 : decode cX0_sharedBeginning 5 = .ok (.iaload, 1) := by decide +kernel
theorem dX0_sharedBeginning_6 : decode cX0_sharedBeginning 6 = .ok (.aload_n 0, 1) := by decide +kernel
theorem dX0_sharedBeginning_7 : decode cX0_sharedBeginning 7 = .ok (.getfield 23, 3) := by decide +kernel
theorem dX0_sharedBeginning_10 : decode cX0_sharedBeginning 10 = .ok (.iload_n 2, 1) := by decide +kernel
theorem dX0_sharedBeginning_11 : decode cX0_sharedBeginning 11 = .ok (.iaload, 1) := by decide +kernel
theorem dX0_sharedBeginning_12 : decode cX0_sharedBeginning 12 = .ok (.invokestatic 118, 3) := by decide +kernel
theorem dX0_sharedBeginning_15 : decode cX0_sharedBeginning 15 = .ok (.istore_n 3, 1) := by decide +kernel
theorem dX0_sharedBeginning_16 : decode cX0_sharedBeginning 16 = .ok (.iconst 0, 1) := by decide +kernel
theorem dX0_sharedBeginning_17 : decode cX0_sharedBeginning 17 = .ok (.istore 4, 2) := by decide +kernel
theorem dX0_sharedBeginning_19 : decode cX0_sharedBeginning 19 = .ok (.iload 4, 2) := by decide +kernel
theorem dX0_sharedBeginning_21 : decode cX0_sharedBeginning 21 = .ok (.iload_n 3, 1) := by decide +kernel
theorem dX0_sharedBeginning_22 : decode cX0_sharedBeginning 22 = .ok (.if_icmp .ge 26, 3) := by decide +kernel
theorem dX0_sharedBeginning_25 : decode cX0_sharedBeginning 25 = .ok (.aload_n 0, 1) := by decide +kernel
theorem dX0_sharedBeginning_26 : decode cX0_sharedBeginning 26 = .ok (.iload_n 1, 1) := by decide +kernel
theorem dX0_sharedBeginning_27 : decode cX0_sharedBeginning 27 = .ok (.iload 4, 2) := by decide +kernel
theorem dX0_sharedBeginning_29 : decode cX0_sharedBeginning 29 = .ok (.invokevirtual 100, 3) := by decide +kernel
theorem dX0_sharedBeginning_32 : decode cX0_sharedBeginning 32 = .ok (.aload_n 0, 1) := by decide +kernel
theorem dX0_sharedBeginning_33 : decode cX0_sharedBeginning 33 = .ok (.iload_n 2, 1) := by decide +kernel
theorem dX0_sharedBeginning_34 : decode cX0_sharedBeginning 34 = .ok (.iload 4, 2) := by decide +kernel
theorem dX0_sharedBeginning_36 : decode cX0_sharedBeginning 36 = .ok (.invokevirtual 100, 3) := by decide +kernel
theorem dX0_sharedBeginning_39 : decode cX0_sharedBeginning 39 = .ok (.if_icmp .ne 9, 3) := by decide +kernel
theorem dX0_sharedBeginning_42 : decode cX0_sharedBeginning 42 = .ok (.iinc 4 1, 3) := by decide +kernel
theorem dX0_sharedBeginning_45 : decode cX0_sharedBeginning 45 = .ok (.goto (-26), 3) := by decide +kernel
theorem dX0_sharedBeginning_48 : decode cX0_sharedBeginning 48 = .ok (.iload 4, 2) := by decide +kernel
theorem dX0_sharedBeginning_50 : decode cX0_sharedBeginning 50 = .ok (.ireturn, 1) := by decide +kernel
theorem dX0_isRowInSomeOrder_0 : decode cX0_isRowInSomeOrder 0 = .ok (.aload_n 0, 1) := by decide +kernel
theorem dX0_isRowInSomeOrder_1 : decode cX0_isRowInSomeOrder 1 = .ok (.getfield 23, 3) := by decide +kernel
theorem dX0_isRowInSomeOrder_4 : decode cX0_isRowInSomeOrder 4 = .ok (.iload_n 1, 1) := by decide +kernel
theorem dX0_isRowInSomeOrder_5 : decode cX0_isRowInSomeOrder 5 = .ok (.iaload, 1) := by decide +kernel
theorem dX0_isRowInSomeOrder_6 : decode cX0_isRowInSomeOrder 6 = .ok (.aload_n 0, 1) := by decide +kernel
theorem dX0_isRowInSomeOrder_7 : decode cX0_isRowInSomeOrder 7 = .ok (.getfield 13, 3) := by decide +kernel
theorem dX0_isRowInSomeOrder_10 : decode cX0_isRowInSomeOrder 10 = .ok (.if_icmp .eq 5, 3) := by decide +kernel
theorem dX0_isRowInSomeOrder_13 : decode cX0_isRowInSomeOrder 13 = .ok (.iconst 0, 1) := by decide +kernel
theorem dX0_isRowInSomeOrder_14 : decode cX0_isRowInSomeOrder 14 = .ok (.ireturn, 1) := by decide +kernel
theorem dX0_isRowInSomeOrder_15 : decode cX0_isRowInSomeOrder 15 = .ok (.aload_n 0, 1) := by decide +kernel
theorem dX0_isRowInSomeOrder_16 : decode cX0_isRowInSomeOrder 16 = .ok (.invokevirtual 134, 3) := by decide +kernel
theorem dX0_isRowInSomeOrder_19 : decode cX0_isRowInSomeOrder 19 = .ok (.istore_n 2, 1) := by decide +kernel
theorem dX0_isRowInSomeOrder_20 : decode cX0_isRowInSomeOrder 20 = .ok (.iconst 0, 1) := by decide +kernel
theorem dX0_isRowInSomeOrder_21 : decode cX0_isRowInSomeOrder 21 = .ok (.istore_n 3, 1) := by decide +kernel
theorem dX0_isRowInSomeOrder_22 : decode cX0_isRowInSomeOrder 22 = .ok (.iload_n 3, 1) := by decide +kernel
theorem dX0_isRowInSomeOrder_23 : decode cX0_isRowInSomeOrder 23 = .ok (.aload_n 0, 1) := by decide +kernel
theorem dX0_isRowInSomeOrder_24 : decode cX0_isRowInSomeOrder 24 = .ok (.getfield 13, 3) := by decide +kernel
theorem dX0_isRowInSomeOrder_27 : decode cX0_isRowInSomeOrder 27 = .ok (.if_icmp .ge 59, 3) := by decide +kernel
theorem dX0_isRowInSomeOrder_30 : decode cX0_isRowInSomeOrder 30 = .ok (.aload_n 0, 1) := by decide +kernel
theorem dX0_isRowInSomeOrder_31 : decode cX0_isRowInSomeOrder 31 = .ok (.iload_n 1, 1) := by decide +kernel
theorem dX0_isRowInSomeOrder_32 : decode cX0_isRowInSomeOrder 32 = .ok (.iload_n 3, 1) := by decide +kernel
theorem dX0_isRowInSomeOrder_33 : decode cX0_isRowInSomeOrder 33 = .ok (.invokevirtual 100, 3) := by decide +kernel
theorem dX0_isRowInSomeOrder_36 : decode cX0_isRowInSomeOrder 36 = .ok (.bipush 97, 2) := by decide +kernel
theorem dX0_isRowInSomeOrder_38 : decode cX0_isRowInSomeOrder 38 = .ok (.isub, 1) := by decide +kernel
theorem dX0_isRowInSomeOrder_39 : decode cX0_isRowInSomeOrder 39 = .ok (.istore 4, 2) := by decide +kernel
theorem dX0_isRowInSomeOrder_41 : decode cX0_isRowInSomeOrder 41 = .ok (.iload 4, 2) := by decide +kernel
theorem dX0_isRowInSomeOrder_43 : decode cX0_isRowInSomeOrder 43 = .ok (.ifCond .lt 34, 3) := by decide +kernel
theorem dX0_isRowInSomeOrder_46 : decode cX0_isRowInSomeOrder 46 = .ok (.iload 4, 2) := by decide +kernel
theorem dX0_isRowInSomeOrder_48 : decode cX0_isRowInSomeOrder 48 = .ok (.bipush 26, 2) := by decide +kernel
theorem dX0_isRowInSomeOrder_50 : decode cX0_isRowInSomeOrder 50 = .ok (.if_icmp .ge 27, 3) := by decide +kernel
theorem dX0_isRowInSomeOrder_53 : decode cX0_isRowInSomeOrder 53 = .ok (.aload_n 0, 1) := by decide +kernel
theorem dX0_isRowInSomeOrder_54 : decode cX0_isRowInSomeOrder 54 = .ok (.getfield 45, 3) := by decide +kernel
theorem dX0_isRowInSomeOrder_57 : decode cX0_isRowInSomeOrder 57 = .ok (.iload 4, 2) := by decide +kernel
theorem dX0_isRowInSomeOrder_59 : decode cX0_isRowInSomeOrder 59 = .ok (.iaload, 1) := by decide +kernel
theorem dX0_isRowInSomeOrder_60 : decode cX0_isRowInSomeOrder 60 = .ok (.ifCond .le 17, 3) := by decide +kernel
theorem dX0_isRowInSomeOrder_63 : decode cX0_isRowInSomeOrder 63 = .ok (.aload_n 0, 1) := by decide +kernel
theorem dX0_isRowInSomeOrder_64 : decode cX0_isRowInSomeOrder 64 = .ok (.getfield 45, 3) := by decide +kernel
theorem dX0_isRowInSomeOrder_67 : decode cX0_isRowInSomeOrder 67 = .ok (.iload 4, 2) := by decide +kernel
theorem dX0_isRowInSomeOrder_69 : decode cX0_isRowInSomeOrder 69 = .ok (.dup2, 1) := by decide +kernel
theorem dX0_isRowInSomeOrder_70 : decode cX0_isRowInSomeOrder 70 = .ok (.iaload, 1) := by decide +kernel
theorem dX0_isRowInSomeOrder_71 : decode cX0_isRowInSomeOrder 71 = .ok (.iconst 1, 1) := by decide +kernel
theorem dX0_isRowInSomeOrder_72 : decode cX0_isRowInSomeOrder 72 = .ok (.isub, 1) := by decide +kernel
theorem dX0_isRowInSomeOrder_73 : decode cX0_isRowInSomeOrder 73 = .ok (.iastore, 1) := by decide +kernel
theorem dX0_isRowInSomeOrder_74 : decode cX0_isRowInSomeOrder 74 = .ok (.goto 6, 3) := by decide +kernel
theorem dX0_isRowInSomeOrder_77 : decode cX0_isRowInSomeOrder 77 = .ok (.iinc 2 (-1), 3) := by decide +kernel
theorem dX0_isRowInSomeOrder_80 : decode cX0_isRowInSomeOrder 80 = .ok (.iinc 3 1, 3) := by decide +kernel
theorem dX0_isRowInSomeOrder_83 : decode cX0_isRowInSomeOrder 83 = .ok (.goto (-61), 3) := by decide +kernel
theorem dX0_isRowInSomeOrder_86 : decode cX0_isRowInSomeOrder 86 = .ok (.iload_n 2, 1) := by decide +kernel
theorem dX0_isRowInSomeOrder_87 : decode cX0_isRowInSomeOrder 87 = .ok (.ifCond .lt 7, 3) := by decide +kernel
theorem dX0_isRowInSomeOrder_90 : decode cX0_isRowInSomeOrder 90 = .ok (.iconst 1, 1) := by decide +kernel
theorem dX0_isRowInSomeOrder_91 : decode cX0_isRowInSomeOrder 91 = .ok (.goto 4, 3) := by decide +kernel
theorem dX0_isRowInSomeOrder_94 : decode cX0_isRowInSomeOrder 94 = .ok (.iconst 0, 1) := by decide +kernel
theorem dX0_isRowInSomeOrder_95 : decode cX0_isRowInSomeOrder 95 = .ok (.ireturn, 1) := by decide +kernel
theorem dX0_fillStock_0 : decode cX0_fillStock 0 = .ok (.iconst 0, 1) := by decide +kernel
theorem dX0_fillStock_1 : decode cX0_fillStock 1 = .ok (.istore_n 1, 1) := by decide +kernel
theorem dX0_fillStock_2 : decode cX0_fillStock 2 = .ok (.iload_n 1, 1) := by decide +kernel
theorem dX0_fillStock_3 : decode cX0_fillStock 3 = .ok (.bipush 26, 2) := by decide +kernel
theorem dX0_fillStock_5 : decode cX0_fillStock 5 = .ok (.if_icmp .ge 16, 3) := by decide +kernel
theorem dX0_fillStock_8 : decode cX0_fillStock 8 = .ok (.aload_n 0, 1) := by decide +kernel
theorem dX0_fillStock_9 : decode cX0_fillStock 9 = .ok (.getfield 45, 3) := by decide +kernel
theorem dX0_fillStock_12 : decode cX0_fillStock 12 = .ok (.iload_n 1, 1) := by decide +kernel
theorem dX0_fillStock_13 : decode cX0_fillStock 13 = .ok (.iconst 0, 1) := by decide +kernel
theorem dX0_fillStock_14 : decode cX0_fillStock 14 = .ok (.iastore, 1) := by decide +kernel
theorem dX0_fillStock_15 : decode cX0_fillStock 15 = .ok (.iinc 1 1, 3) := by decide +kernel
theorem dX0_fillStock_18 : decode cX0_fillStock 18 = .ok (.goto (-16), 3) := by decide +kernel
theorem dX0_fillStock_21 : decode cX0_fillStock 21 = .ok (.iconst 0, 1) := by decide +kernel
theorem dX0_fillStock_22 : decode cX0_fillStock 22 = .ok (.istore_n 1, 1) := by decide +kernel
theorem dX0_fillStock_23 : decode cX0_fillStock 23 = .ok (.iconst 0, 1) := by decide +kernel
theorem dX0_fillStock_24 : decode cX0_fillStock 24 = .ok (.istore_n 2, 1) := by decide +kernel
theorem dX0_fillStock_25 : decode cX0_fillStock 25 = .ok (.iload_n 2, 1) := by decide +kernel
theorem dX0_fillStock_26 : decode cX0_fillStock 26 = .ok (.aload_n 0, 1) := by decide +kernel
theorem dX0_fillStock_27 : decode cX0_fillStock 27 = .ok (.getfield 13, 3) := by decide +kernel
theorem dX0_fillStock_30 : decode cX0_fillStock 30 = .ok (.if_icmp .ge 40, 3) := by decide +kernel
theorem dX0_fillStock_33 : decode cX0_fillStock 33 = .ok (.aload_n 0, 1) := by decide +kernel
theorem dX0_fillStock_34 : decode cX0_fillStock 34 = .ok (.iload_n 2, 1) := by decide +kernel
theorem dX0_fillStock_35 : decode cX0_fillStock 35 = .ok (.invokevirtual 127, 3) := by decide +kernel
theorem dX0_fillStock_38 : decode cX0_fillStock 38 = .ok (.istore_n 3, 1) := by decide +kernel
theorem dX0_fillStock_39 : decode cX0_fillStock 39 = .ok (.iload_n 3, 1) := by decide +kernel
theorem dX0_fillStock_40 : decode cX0_fillStock 40 = .ok (.bipush 63, 2) := by decide +kernel
theorem dX0_fillStock_42 : decode cX0_fillStock 42 = .ok (.if_icmp .ne 9, 3) := by decide +kernel
theorem dX0_fillStock_45 : decode cX0_fillStock 45 = .ok (.iinc 1 1, 3) := by decide +kernel
theorem dX0_fillStock_48 : decode cX0_fillStock 48 = .ok (.goto 16, 3) := by decide +kernel
theorem dX0_fillStock_51 : decode cX0_fillStock 51 = .ok (.aload_n 0, 1) := by decide +kernel
theorem dX0_fillStock_52 : decode cX0_fillStock 52 = .ok (.getfield 45, 3) := by decide +kernel
theorem dX0_fillStock_55 : decode cX0_fillStock 55 = .ok (.iload_n 3, 1) := by decide +kernel
theorem dX0_fillStock_56 : decode cX0_fillStock 56 = .ok (.bipush 97, 2) := by decide +kernel
theorem dX0_fillStock_58 : decode cX0_fillStock 58 = .ok (.isub, 1) := by decide +kernel
theorem dX0_fillStock_59 : decode cX0_fillStock 59 = .ok (.dup2, 1) := by decide +kernel
theorem dX0_fillStock_60 : decode cX0_fillStock 60 = .ok (.iaload, 1) := by decide +kernel
theorem dX0_fillStock_61 : decode cX0_fillStock 61 = .ok (.iconst 1, 1) := by decide +kernel
theorem dX0_fillStock_62 : decode cX0_fillStock 62 = .ok (.iadd, 1) := by decide +kernel
theorem dX0_fillStock_63 : decode cX0_fillStock 63 = .ok (.iastore, 1) := by decide +kernel
theorem dX0_fillStock_64 : decode cX0_fillStock 64 = .ok (.iinc 2 1, 3) := by decide +kernel
theorem dX0_fillStock_67 : decode cX0_fillStock 67 = .ok (.goto (-42), 3) := by decide +kernel
theorem dX0_fillStock_70 : decode cX0_fillStock 70 = .ok (.iload_n 1, 1) := by decide +kernel
theorem dX0_fillStock_71 : decode cX0_fillStock 71 = .ok (.ireturn, 1) := by decide +kernel
end
section
theorem dX1_init_0 : decode cX1_init 0 = .ok (.aload_n 0, 1) := by decide +kernel
theorem dX1_init_1 : decode cX1_init 1 = .ok (.invokespecial 1, 3) := by decide +kernel
theorem dX1_init_4 : decode cX1_init 4 = .ok (.aload_n 0, 1) := by decide +kernel
theorem dX1_init_5 : decode cX1_init 5 = .ok (.bipush 15, 2) := by decide +kernel
theorem dX1_init_7 : decode cX1_init 7 = .ok (.newarray .int, 2) := by decide +kernel
theorem dX1_init_9 : decode cX1_init 9 = .ok (.putfield 7, 3) := by decide +kernel
theorem dX1_init_12 : decode cX1_init 12 = .ok (.aload_n 0, 1) := by decide +kernel
theorem dX1_init_13 : decode cX1_init 13 = .ok (.bipush 26, 2) := by decide +kernel
theorem dX1_init_15 : decode cX1_init 15 = .ok (.newarray .int, 2) := by decide +kernel
theorem dX1_init_17 : decode cX1_init 17 = .ok (.putfield 13, 3) := by decide +kernel
theorem dX1_init_20 : decode cX1_init 20 = .ok (.aload_n 0, 1) := by decide +kernel
theorem dX1_init_21 : decode cX1_init 21 = .ok (.sipush 3750, 3) := by decide +kernel
theorem dX1_init_24 : decode cX1_init 24 = .ok (.newarray .int, 2) := by decide +kernel
theorem dX1_init_26 : decode cX1_init 26 = .ok (.putfield 16, 3) := by decide +kernel
theorem dX1_init_29 : decode cX1_init 29 = .ok (.aload_n 0, 1) := by decide +kernel
theorem dX1_init_30 : decode cX1_init 30 = .ok (.sipush 250, 3) := by decide +kernel
theorem dX1_init_33 : decode cX1_init 33 = .ok (.newarray .int, 2) := by decide +kernel
theorem dX1_init_35 : decode cX1_init 35 = .ok (.putfield 19, 3) := by decide +kernel
theorem dX1_init_38 : decode cX1_init 38 = .ok (.aload_n 0, 1) := by decide +kernel
theorem dX1_init_39 : decode cX1_init 39 = .ok (.sipush 250, 3) := by decide +kernel
theorem dX1_init_42 : decode cX1_init 42 = .ok (.newarray .int, 2) := by decide +kernel
theorem dX1_init_44 : decode cX1_init 44 = .ok (.putfield 22, 3) := by decide +kernel
theorem dX1_init_47 : decode cX1_init 47 = .ok (.aload_n 0, 1) := by decide +kernel
theorem dX1_init_48 : decode cX1_init 48 = .ok (.sipush 250, 3) := by decide +kernel
theorem dX1_init_51 : decode cX1_init 51 = .ok (.newarray .int, 2) := by decide +kernel
theorem dX1_init_53 : decode cX1_init 53 = .ok (.putfield 25, 3) := by decide +kernel
theorem dX1_init_56 : decode cX1_init 56 = .ok (.aload_n 0, 1) := by decide +kernel
theorem dX1_init_57 : decode cX1_init 57 = .ok (.sipush 250, 3) := by decide +kernel
theorem dX1_init_60 : decode cX1_init 60 = .ok (.newarray .boolean, 2) := by decide +kernel
theorem dX1_init_62 : decode cX1_init 62 = .ok (.putfield 28, 3) := by decide +kernel
theorem dX1_init_65 : decode cX1_init 65 = .ok (.aload_n 0, 1) := by decide +kernel
theorem dX1_init_66 : decode cX1_init 66 = .ok (.sipush 250, 3) := by decide +kernel
theorem dX1_init_69 : decode cX1_init 69 = .ok (.newarray .int, 2) := by decide +kernel
theorem dX1_init_71 : decode cX1_init 71 = .ok (.putfield 32, 3) := by decide +kernel
theorem dX1_init_74 : decode cX1_init 74 = .ok (.aload_n 0, 1) := by decide +kernel
theorem dX1_init_75 : decode cX1_init 75 = .ok (.bipush 26, 2) := by decide +kernel
theorem dX1_init_77 : decode cX1_init 77 = .ok (.newarray .int, 2) := by decide +kernel
theorem dX1_init_79 : decode cX1_init 79 = .ok (.putfield 35, 3) := by decide +kernel
theorem dX1_init_82 : decode cX1_init 82 = .ok (.iconst 0, 1) := by decide +kernel
theorem dX1_init_83 : decode cX1_init 83 = .ok (.istore_n 1, 1) := by decide +kernel
theorem dX1_init_84 : decode cX1_init 84 = .ok (.iload_n 1, 1) := by decide +kernel
theorem dX1_init_85 : decode cX1_init 85 = .ok (.bipush 26, 2) := by decide +kernel
theorem dX1_init_87 : decode cX1_init 87 = .ok (.if_icmp .ge 19, 3) := by decide +kernel
theorem dX1_init_90 : decode cX1_init 90 = .ok (.aload_n 0, 1) := by decide +kernel
theorem dX1_init_91 : decode cX1_init 91 = .ok (.getfield 13, 3) := by decide +kernel
theorem dX1_init_94 : decode cX1_init 94 = .ok (.iload_n 1, 1) := by decide +kernel
theorem dX1_init_95 : decode cX1_init 95 = .ok (.bipush 97, 2) := by decide +kernel
theorem dX1_init_97 : decode cX1_init 97 = .ok (.iload_n 1, 1) := by decide +kernel
theorem dX1_init_98 : decode cX1_init 98 = .ok (.iadd, 1) := by decide +kernel
theorem dX1_init_99 : decode cX1_init 99 = .ok (.iastore, 1) := by decide +kernel
theorem dX1_init_100 : decode cX1_init 100 = .ok (.iinc 1 1, 3) := by decide +kernel
theorem dX1_init_103 : decode cX1_init 103 = .ok (.goto (-19), 3) := by decide +kernel
theorem dX1_init_106 : decode cX1_init 106 = .ok (.return_, 1) := by decide +kernel
theorem dX1_thrown_0 : decode cX1_thrown 0 = .ok (.aload_n 0, 1) := by decide +kernel
theorem dX1_thrown_1 : decode cX1_thrown 1 = .ok (.getfield 38, 3) := by decide +kernel
theorem dX1_thrown_4 : decode cX1_thrown 4 = .ok (.ireturn, 1) := by decide +kernel
theorem dX1_fails_0 : decode cX1_fails 0 = .ok (.aload_n 0, 1) := by decide +kernel
theorem dX1_fails_1 : decode cX1_fails 1 = .ok (.iload_n 1, 1) := by decide +kernel
theorem dX1_fails_2 : decode cX1_fails 2 = .ok (.ifCond .eq 7, 3) := by decide +kernel
theorem dX1_fails_5 : decode cX1_fails 5 = .ok (.iconst 1, 1) := by decide +kernel
theorem dX1_fails_6 : decode cX1_fails 6 = .ok (.goto 4, 3) := by decide +kernel
theorem dX1_fails_9 : decode cX1_fails 9 = .ok (.iconst 0, 1) := by decide +kernel
theorem dX1_fails_10 : decode cX1_fails 10 = .ok (.putfield 38, 3) := by decide +kernel
theorem dX1_fails_13 : decode cX1_fails 13 = .ok (.iload_n 1, 1) := by decide +kernel
theorem dX1_fails_14 : decode cX1_fails 14 = .ok (.ireturn, 1) := by decide +kernel
theorem dX1_isLetter_0 : decode cX1_isLetter 0 = .ok (.iload_n 0, 1) := by decide +kernel
theorem dX1_isLetter_1 : decode cX1_isLetter 1 = .ok (.bipush 97, 2) := by decide +kernel
theorem dX1_isLetter_3 : decode cX1_isLetter 3 = .ok (.if_icmp .lt 13, 3) := by decide +kernel
theorem dX1_isLetter_6 : decode cX1_isLetter 6 = .ok (.iload_n 0, 1) := by decide +kernel
theorem dX1_isLetter_7 : decode cX1_isLetter 7 = .ok (.bipush 122, 2) := by decide +kernel
theorem dX1_isLetter_9 : decode cX1_isLetter 9 = .ok (.if_icmp .gt 7, 3) := by decide +kernel
theorem dX1_isLetter_12 : decode cX1_isLetter 12 = .ok (.iconst 1, 1) := by decide +kernel
theorem dX1_isLetter_13 : decode cX1_isLetter 13 = .ok (.goto 4, 3) := by decide +kernel
theorem dX1_isLetter_16 : decode cX1_isLetter 16 = .ok (.iconst 0, 1) := by decide +kernel
theorem dX1_isLetter_17 : decode cX1_isLetter 17 = .ok (.ireturn, 1) := by decide +kernel
theorem dX1_isList_0 : decode cX1_isList 0 = .ok (.iload_n 0, 1) := by decide +kernel
theorem dX1_isList_1 : decode cX1_isList 1 = .ok (.ifCond .lt 12, 3) := by decide +kernel
theorem dX1_isList_4 : decode cX1_isList 4 = .ok (.iload_n 0, 1) := by decide +kernel
theorem dX1_isList_5 : decode cX1_isList 5 = .ok (.iconst 4, 1) := by decide +kernel
theorem dX1_isList_6 : decode cX1_isList 6 = .ok (.if_icmp .ge 7, 3) := by decide +kernel
theorem dX1_isList_9 : decode cX1_isList 9 = .ok (.iconst 1, 1) := by decide +kernel
theorem dX1_isList_10 : decode cX1_isList 10 = .ok (.goto 4, 3) := by decide +kernel
theorem dX1_isList_13 : decode cX1_isList 13 = .ok (.iconst 0, 1) := by decide +kernel
theorem dX1_isList_14 : decode cX1_isList 14 = .ok (.ireturn, 1) := by decide +kernel
theorem dX1_isWord_0 : decode cX1_isWord 0 = .ok (.iload_n 1, 1) := by decide +kernel
theorem dX1_isWord_1 : decode cX1_isWord 1 = .ok (.ifCond .lt 15, 3) := by decide +kernel
theorem dX1_isWord_4 : decode cX1_isWord 4 = .ok (.iload_n 1, 1) := by decide +kernel
theorem dX1_isWord_5 : decode cX1_isWord 5 = .ok (.aload_n 0, 1) := by decide +kernel
theorem dX1_isWord_6 : decode cX1_isWord 6 = .ok (.getfield 42, 3) := by decide +kernel
theorem dX1_isWord_9 : decode cX1_isWord 9 = .ok (.if_icmp .ge 7, 3) := by decide +kernel
theorem dX1_isWord_12 : decode cX1_isWord 12 = .ok (.iconst 1, 1) := by decide +kernel
theorem dX1_isWord_13 : decode cX1_isWord 13 = .ok (.goto 4, 3) := by decide +kernel
theorem dX1_isWord_16 : decode cX1_isWord 16 = .ok (.iconst 0, 1) := by decide +kernel
theorem dX1_isWord_17 : decode cX1_isWord 17 = .ok (.ireturn, 1) := by decide +kernel
theorem dX1_sign_0 : decode cX1_sign 0 = .ok (.aload_n 0, 1) := by decide +kernel
theorem dX1_sign_1 : decode cX1_sign 1 = .ok (.iconst 0, 1) := by decide +kernel
theorem dX1_sign_2 : decode cX1_sign 2 = .ok (.putfield 38, 3) := by decide +kernel
theorem dX1_sign_5 : decode cX1_sign 5 = .ok (.iload_n 1, 1) := by decide +kernel
theorem dX1_sign_6 : decode cX1_sign 6 = .ok (.invokestatic 45, 3) := by decide +kernel
theorem dX1_sign_9 : decode cX1_sign 9 = .ok (.ifCond .ne 9, 3) := by decide +kernel
theorem dX1_sign_12 : decode cX1_sign 12 = .ok (.iload_n 1, 1) := by decide +kernel
theorem dX1_sign_13 : decode cX1_sign 13 = .ok (.bipush 63, 2) := by decide +kernel
theorem dX1_sign_15 : decode cX1_sign 15 = .ok (.if_icmp .ne 12, 3) := by decide +kernel
theorem dX1_sign_18 : decode cX1_sign 18 = .ok (.aload_n 0, 1) := by decide +kernel
theorem dX1_sign_19 : decode cX1_sign 19 = .ok (.getfield 49, 3) := by decide +kernel
theorem dX1_sign_22 : decode cX1_sign 22 = .ok (.bipush 15, 2) := by decide +kernel
theorem dX1_sign_24 : decode cX1_sign 24 = .ok (.if_icmp .ne 5, 3) := by decide +kernel
theorem dX1_sign_27 : decode cX1_sign 27 = .ok (.iconst 0, 1) := by decide +kernel
theorem dX1_sign_28 : decode cX1_sign 28 = .ok (.ireturn, 1) := by decide +kernel
theorem dX1_sign_29 : decode cX1_sign 29 = .ok (.aload_n 0, 1) := by decide +kernel
theorem dX1_sign_30 : decode cX1_sign 30 = .ok (.getfield 7, 3) := by decide +kernel
theorem dX1_sign_33 : decode cX1_sign 33 = .ok (.aload_n 0, 1) := by decide +kernel
theorem dX1_sign_34 : decode cX1_sign 34 = .ok (.getfield 49, 3) := by decide +kernel
theorem dX1_sign_37 : decode cX1_sign 37 = .ok (.iload_n 1, 1) := by decide +kernel
theorem dX1_sign_38 : decode cX1_sign 38 = .ok (.iastore, 1) := by decide +kernel
theorem dX1_sign_39 : decode cX1_sign 39 = .ok (.aload_n 0, 1) := by decide +kernel
theorem dX1_sign_40 : decode cX1_sign 40 = .ok (.dup, 1) := by decide +kernel
theorem dX1_sign_41 : decode cX1_sign 41 = .ok (.getfield 49, 3) := by decide +kernel
theorem dX1_sign_44 : decode cX1_sign 44 = .ok (.iconst 1, 1) := by decide +kernel
theorem dX1_sign_45 : decode cX1_sign 45 = .ok (.iadd, 1) := by decide +kernel
theorem dX1_sign_46 : decode cX1_sign 46 = .ok (.putfield 49, 3) := by decide +kernel
theorem dX1_sign_49 : decode cX1_sign 49 = .ok (.iconst 1, 1) := by decide +kernel
theorem dX1_sign_50 : decode cX1_sign 50 = .ok (.ireturn, 1) := by decide +kernel
theorem dX1_clear_0 : decode cX1_clear 0 = .ok (.aload_n 0, 1) := by decide +kernel
theorem dX1_clear_1 : decode cX1_clear 1 = .ok (.iconst 0, 1) := by decide +kernel
theorem dX1_clear_2 : decode cX1_clear 2 = .ok (.putfield 38, 3) := by decide +kernel
theorem dX1_clear_5 : decode cX1_clear 5 = .ok (.aload_n 0, 1) := by decide +kernel
theorem dX1_clear_6 : decode cX1_clear 6 = .ok (.iconst 0, 1) := by decide +kernel
theorem dX1_clear_7 : decode cX1_clear 7 = .ok (.putfield 49, 3) := by decide +kernel
theorem dX1_clear_10 : decode cX1_clear 10 = .ok (.return_, 1) := by decide +kernel
theorem dX1_fold_0 : decode cX1_fold 0 = .ok (.aload_n 0, 1) := by decide +kernel
theorem dX1_fold_1 : decode cX1_fold 1 = .ok (.iload_n 1, 1) := by decide +kernel
theorem dX1_fold_2 : decode cX1_fold 2 = .ok (.invokestatic 45, 3) := by decide +kernel
theorem dX1_fold_5 : decode cX1_fold 5 = .ok (.ifCond .eq 10, 3) := by decide +kernel
theorem dX1_fold_8 : decode cX1_fold 8 = .ok (.iload_n 2, 1) := by decide +kernel
theorem dX1_fold_9 : decode cX1_fold 9 = .ok (.invokestatic 45, 3) := by decide +kernel
theorem dX1_fold_12 : decode cX1_fold 12 = .ok (.ifCond .ne 7, 3) := by decide +kernel
theorem dX1_fold_15 : decode cX1_fold 15 = .ok (.iconst 1, 1) := by decide +kernel
theorem dX1_fold_16 : decode cX1_fold 16 = .ok (.goto 4, 3) := by decide +kernel
theorem dX1_fold_19 : decode cX1_fold 19 = .ok (.iconst 0, 1) := by decide +kernel
theorem dX1_fold_20 : decode cX1_fold 20 = .ok (.invokevirtual 52, 3) := by decide +kernel
theorem dX1_fold_23 : decode cX1_fold 23 = .ok (.ifCond .ne 13, 3) := by decide +kernel
theorem dX1_fold_26 : decode cX1_fold 26 = .ok (.aload_n 0, 1) := by decide +kernel
theorem dX1_fold_27 : decode cX1_fold 27 = .ok (.getfield 13, 3) := by decide +kernel
theorem dX1_fold_30 : decode cX1_fold 30 = .ok (.iload_n 1, 1) := by decide +kernel
theorem dX1_fold_31 : decode cX1_fold 31 = .ok (.bipush 97, 2) := by decide +kernel
theorem dX1_fold_33 : decode cX1_fold 33 = .ok (.isub, 1) := by decide +kernel
theorem dX1_fold_34 : decode cX1_fold 34 = .ok (.iload_n 2, 1) := by decide +kernel
theorem dX1_fold_35 : decode cX1_fold 35 = .ok (.iastore, 1) := by decide +kernel
theorem dX1_fold_36 : decode cX1_fold 36 = .ok (.return_, 1) := by decide +kernel
theorem dX1_signAt_0 : decode cX1_signAt 0 = .ok (.aload_n 0, 1) := by decide +kernel
theorem dX1_signAt_1 : decode cX1_signAt 1 = .ok (.getfield 7, 3) := by decide +kernel
theorem dX1_signAt_4 : decode cX1_signAt 4 = .ok (.iload_n 1, 1) := by decide +kernel
theorem dX1_signAt_5 : decode cX1_signAt 5 = .ok (.iaload, 1) := by decide +kernel
theorem dX1_signAt_6 : decode cX1_signAt 6 = .ok (.bipush 63, 2) := by decide +kernel
theorem dX1_signAt_8 : decode cX1_signAt 8 = .ok (.if_icmp .ne 8, 3) := by decide +kernel
theorem dX1_signAt_11 : decode cX1_signAt 11 = .ok (.bipush 63, 2) := by decide +kernel
theorem dX1_signAt_13 : decode cX1_signAt 13 = .ok (.goto 17, 3) := by decide +kernel
theorem dX1_signAt_16 : decode cX1_signAt 16 = .ok (.aload_n 0, 1) := by decide +kernel
theorem dX1_signAt_17 : decode cX1_signAt 17 = .ok (.getfield 13, 3) := by decide +kernel
theorem dX1_signAt_20 : decode cX1_signAt 20 = .ok (.aload_n 0, 1) := by decide +kernel
theorem dX1_signAt_21 : decode cX1_signAt 21 = .ok (.getfield 7, 3) := by decide +kernel
theorem dX1_signAt_24 : decode cX1_signAt 24 = .ok (.iload_n 1, 1) := by decide +kernel
theorem dX1_signAt_25 : decode cX1_signAt 25 = .ok (.iaload, 1) := by decide +kernel
theorem dX1_signAt_26 : decode cX1_signAt 26 = .ok (.bipush 97, 2) := by decide +kernel
theorem dX1_signAt_28 : decode cX1_signAt 28 = .ok (.isub, 1) := by decide +kernel
theorem dX1_signAt_29 : decode cX1_signAt 29 = .ok (.iaload, 1) := by decide +kernel
theorem dX1_signAt_30 : decode cX1_signAt 30 = .ok (.ireturn, 1) := by decide +kernel
theorem dX1_letterAt_0 : decode cX1_letterAt 0 = .ok (.aload_n 0, 1) := by decide +kernel
theorem dX1_letterAt_1 : decode cX1_letterAt 1 = .ok (.getfield 16, 3) := by decide +kernel
theorem dX1_letterAt_4 : decode cX1_letterAt 4 = .ok (.bipush 15, 2) := by decide +kernel
theorem dX1_letterAt_6 : decode cX1_letterAt 6 = .ok (.iload_n 1, 1) := by decide +kernel
theorem dX1_letterAt_7 : decode cX1_letterAt 7 = .ok (.imul, 1) := by decide +kernel
theorem dX1_letterAt_8 : decode cX1_letterAt 8 = .ok (.iload_n 2, 1) := by decide +kernel
theorem dX1_letterAt_9 : decode cX1_letterAt 9 = .ok (.iadd, 1) := by decide +kernel
theorem dX1_letterAt_10 : decode cX1_letterAt 10 = .ok (.iaload, 1) := by decide +kernel
theorem dX1_letterAt_11 : decode cX1_letterAt 11 = .ok (.ireturn, 1) := by decide +kernel
theorem dX1_hasBlank_0 : decode cX1_hasBlank 0 = .ok (.iconst 0, 1) := by decide +kernel
theorem dX1_hasBlank_1 : decode cX1_hasBlank 1 = .ok (.istore_n 1, 1) := by decide +kernel
theorem dX1_hasBlank_2 : decode cX1_hasBlank 2 = .ok (.iload_n 1, 1) := by decide +kernel
theorem dX1_hasBlank_3 : decode cX1_hasBlank 3 = .ok (.aload_n 0, 1) := by decide +kernel
theorem dX1_hasBlank_4 : decode cX1_hasBlank 4 = .ok (.getfield 49, 3) := by decide +kernel
theorem dX1_hasBlank_7 : decode cX1_hasBlank 7 = .ok (.if_icmp .ge 22, 3) := by decide +kernel
theorem dX1_hasBlank_10 : decode cX1_hasBlank 10 = .ok (.aload_n 0, 1) := by decide +kernel
theorem dX1_hasBlank_11 : decode cX1_hasBlank 11 = .ok (.getfield 7, 3) := by decide +kernel
theorem dX1_hasBlank_14 : decode cX1_hasBlank 14 = .ok (.iload_n 1, 1) := by decide +kernel
theorem dX1_hasBlank_15 : decode cX1_hasBlank 15 = .ok (.iaload, 1) := by decide +kernel
theorem dX1_hasBlank_16 : decode cX1_hasBlank 16 = .ok (.bipush 63, 2) := by decide +kernel
theorem dX1_hasBlank_18 : decode cX1_hasBlank 18 = .ok (.if_icmp .ne 5, 3) := by decide +kernel
theorem dX1_hasBlank_21 : decode cX1_hasBlank 21 = .ok (.iconst 1, 1) := by decide +kernel
theorem dX1_hasBlank_22 : decode cX1_hasBlank 22 = .ok (.ireturn, 1) := by decide +kernel
theorem dX1_hasBlank_23 : decode cX1_hasBlank 23 = .ok (.iinc 1 1, 3) := by decide +kernel
theorem dX1_hasBlank_26 : decode cX1_hasBlank 26 = .ok (.goto (-24), 3) := by decide +kernel
theorem dX1_hasBlank_29 : decode cX1_hasBlank 29 = .ok (.iconst 0, 1) := by decide +kernel
theorem dX1_hasBlank_30 : decode cX1_hasBlank 30 = .ok (.ireturn, 1) := by decide +kernel
theorem dX1_isAt_0 : decode cX1_isAt 0 = .ok (.iconst 0, 1) := by decide +kernel
theorem dX1_isAt_1 : decode cX1_isAt 1 = .ok (.istore_n 3, 1) := by decide +kernel
theorem dX1_isAt_2 : decode cX1_isAt 2 = .ok (.iload_n 3, 1) := by decide +kernel
theorem dX1_isAt_3 : decode cX1_isAt 3 = .ok (.aload_n 0, 1) := by decide +kernel
theorem dX1_isAt_4 : decode cX1_isAt 4 = .ok (.getfield 49, 3) := by decide +kernel
theorem dX1_isAt_7 : decode cX1_isAt 7 = .ok (.if_icmp .ge 37, 3) := by decide +kernel
theorem dX1_isAt_10 : decode cX1_isAt 10 = .ok (.aload_n 0, 1) := by decide +kernel
theorem dX1_isAt_11 : decode cX1_isAt 11 = .ok (.iload_n 3, 1) := by decide +kernel
theorem dX1_isAt_12 : decode cX1_isAt 12 = .ok (.invokevirtual 56, 3) := by decide +kernel
theorem dX1_isAt_15 : decode cX1_isAt 15 = .ok (.bipush 63, 2) := by decide +kernel
theorem dX1_isAt_17 : decode cX1_isAt 17 = .ok (.if_icmp .eq 21, 3) := by decide +kernel
theorem dX1_isAt_20 : decode cX1_isAt 20 = .ok (.aload_n 0, 1) := by decide +kernel
theorem dX1_isAt_21 : decode cX1_isAt 21 = .ok (.iload_n 3, 1) := by decide +kernel
theorem dX1_isAt_22 : decode cX1_isAt 22 = .ok (.invokevirtual 56, 3) := by decide +kernel
theorem dX1_isAt_25 : decode cX1_isAt 25 = .ok (.aload_n 0, 1) := by decide +kernel
theorem dX1_isAt_26 : decode cX1_isAt 26 = .ok (.iload_n 1, 1) := by decide +kernel
theorem dX1_isAt_27 : decode cX1_isAt 27 = .ok (.iload_n 2, 1) := by decide +kernel
theorem dX1_isAt_28 : decode cX1_isAt 28 = .ok (.iload_n 3, 1) := by decide +kernel
theorem dX1_isAt_29 : decode cX1_isAt 29 = .ok (.iadd, 1) := by decide +kernel
theorem dX1_isAt_30 : decode cX1_isAt 30 = .ok (.invokevirtual 60, 3) := by decide +kernel
theorem dX1_isAt_33 : decode cX1_isAt 33 = .ok (.if_icmp .eq 5, 3) := by decide +kernel
theorem dX1_isAt_36 : decode cX1_isAt 36 = .ok (.iconst 0, 1) := by decide +kernel
theorem dX1_isAt_37 : decode cX1_isAt 37 = .ok (.ireturn, 1) := by decide +kernel
theorem dX1_isAt_38 : decode cX1_isAt 38 = .ok (.iinc 3 1, 3) := by decide +kernel
theorem dX1_isAt_41 : decode cX1_isAt 41 = .ok (.goto (-39), 3) := by decide +kernel
theorem dX1_isAt_44 : decode cX1_isAt 44 = .ok (.iconst 1, 1) := by decide +kernel
theorem dX1_isAt_45 : decode cX1_isAt 45 = .ok (.ireturn, 1) := by decide +kernel
theorem dX1_fits_0 : decode cX1_fits 0 = .ok (.aload_n 0, 1) := by decide +kernel
theorem dX1_fits_1 : decode cX1_fits 1 = .ok (.getfield 19, 3) := by decide +kernel
theorem dX1_fits_4 : decode cX1_fits 4 = .ok (.iload_n 1, 1) := by decide +kernel
theorem dX1_fits_5 : decode cX1_fits 5 = .ok (.iaload, 1) := by decide +kernel
theorem dX1_fits_6 : decode cX1_fits 6 = .ok (.aload_n 0, 1) := by decide +kernel
theorem dX1_fits_7 : decode cX1_fits 7 = .ok (.getfield 49, 3) := by decide +kernel
theorem dX1_fits_10 : decode cX1_fits 10 = .ok (.if_icmp .ne 16, 3) := by decide +kernel
theorem dX1_fits_13 : decode cX1_fits 13 = .ok (.aload_n 0, 1) := by decide +kernel
theorem dX1_fits_14 : decode cX1_fits 14 = .ok (.iload_n 1, 1) := by decide +kernel
theorem dX1_fits_15 : decode cX1_fits 15 = .ok (.iconst 0, 1) := by decide +kernel
theorem dX1_fits_16 : decode cX1_fits 16 = .ok (.invokevirtual 64, 3) := by decide +kernel
theorem dX1_fits_19 : decode cX1_fits 19 = .ok (.ifCond .eq 7, 3) := by decide +kernel
theorem dX1_fits_22 : decode cX1_fits 22 = .ok (.iconst 1, 1) := by decide +kernel
theorem dX1_fits_23 : decode cX1_fits 23 = .ok (.goto 4, 3) := by decide +kernel
theorem dX1_fits_26 : decode cX1_fits 26 = .ok (.iconst 0, 1) := by decide +kernel
theorem dX1_fits_27 : decode cX1_fits 27 = .ok (.ireturn, 1) := by decide +kernel
theorem dX1_isIn_0 : decode cX1_isIn 0 = .ok (.aload_n 0, 1) := by decide +kernel
theorem dX1_isIn_1 : decode cX1_isIn 1 = .ok (.getfield 25, 3) := by decide +kernel
theorem dX1_isIn_4 : decode cX1_isIn 4 = .ok (.iload_n 1, 1) := by decide +kernel
theorem dX1_isIn_5 : decode cX1_isIn 5 = .ok (.iaload, 1) := by decide +kernel
theorem dX1_isIn_6 : decode cX1_isIn 6 = .ok (.iload_n 2, 1) := by decide +kernel
theorem dX1_isIn_7 : decode cX1_isIn 7 = .ok (.ishr, 1) := by decide +kernel
theorem dX1_isIn_8 : decode cX1_isIn 8 = .ok (.iconst 1, 1) := by decide +kernel
theorem dX1_isIn_9 : decode cX1_isIn 9 = .ok (.iand, 1) := by decide +kernel
theorem dX1_isIn_10 : decode cX1_isIn 10 = .ok (.iconst 1, 1) := by decide +kernel
theorem dX1_isIn_11 : decode cX1_isIn 11 = .ok (.if_icmp .ne 7, 3) := by decide +kernel
theorem dX1_isIn_14 : decode cX1_isIn 14 = .ok (.iconst 1, 1) := by decide +kernel
theorem dX1_isIn_15 : decode cX1_isIn 15 = .ok (.goto 4, 3) := by decide +kernel
theorem dX1_isIn_18 : decode cX1_isIn 18 = .ok (.iconst 0, 1) := by decide +kernel
theorem dX1_isIn_19 : decode cX1_isIn 19 = .ok (.ireturn, 1) := by decide +kernel
theorem dX1_enter_0 : decode cX1_enter 0 = .ok (.aload_n 0, 1) := by decide +kernel
theorem dX1_enter_1 : decode cX1_enter 1 = .ok (.iload_n 1, 1) := by decide +kernel
theorem dX1_enter_2 : decode cX1_enter 2 = .ok (.invokestatic 68, 3) := by decide +kernel
theorem dX1_enter_5 : decode cX1_enter 5 = .ok (.ifCond .ne 7, 3) := by decide +kernel
theorem dX1_enter_8 : decode cX1_enter 8 = .ok (.iconst 1, 1) := by decide +kernel
theorem dX1_enter_9 : decode cX1_enter 9 = .ok (.goto 4, 3) := by decide +kernel
theorem dX1_enter_12 : decode cX1_enter 12 = .ok (.iconst 0, 1) := by decide +kernel
theorem dX1_enter_13 : decode cX1_enter 13 = .ok (.invokevirtual 52, 3) := by decide +kernel
theorem dX1_enter_16 : decode cX1_enter 16 = .ok (.ifCond .eq 5, 3) := by decide +kernel
theorem dX1_enter_19 : decode cX1_enter 19 = .ok (.iconst 0, 1) := by decide +kernel
theorem dX1_enter_20 : decode cX1_enter 20 = .ok (.ireturn, 1) := by decide +kernel
theorem dX1_enter_21 : decode cX1_enter 21 = .ok (.aload_n 0, 1) := by decide +kernel
theorem dX1_enter_22 : decode cX1_enter 22 = .ok (.getfield 49, 3) := by decide +kernel
theorem dX1_enter_25 : decode cX1_enter 25 = .ok (.ifCond .eq 21, 3) := by decide +kernel
theorem dX1_enter_28 : decode cX1_enter 28 = .ok (.aload_n 0, 1) := by decide +kernel
theorem dX1_enter_29 : decode cX1_enter 29 = .ok (.invokevirtual 71, 3) := by decide +kernel
theorem dX1_enter_32 : decode cX1_enter 32 = .ok (.ifCond .ne 14, 3) := by decide +kernel
theorem dX1_enter_35 : decode cX1_enter 35 = .ok (.iload_n 2, 1) := by decide +kernel
theorem dX1_enter_36 : decode cX1_enter 36 = .ok (.ifCond .lt 10, 3) := by decide +kernel
theorem dX1_enter_39 : decode cX1_enter 39 = .ok (.iload_n 2, 1) := by decide +kernel
theorem dX1_enter_40 : decode cX1_enter 40 = .ok (.sipush 1000, 3) := by decide +kernel
theorem dX1_enter_43 : decode cX1_enter 43 = .ok (.if_icmp .le 5, 3) := by decide +kernel
theorem dX1_enter_46 : decode cX1_enter 46 = .ok (.iconst (-1), 1) := by decide +kernel
theorem dX1_enter_47 : decode cX1_enter 47 = .ok (.ireturn, 1) := by decide +kernel
theorem dX1_enter_48 : decode cX1_enter 48 = .ok (.iconst 0, 1) := by decide +kernel
theorem dX1_enter_49 : decode cX1_enter 49 = .ok (.istore_n 3, 1) := by decide +kernel
theorem dX1_enter_50 : decode cX1_enter 50 = .ok (.iload_n 3, 1) := by decide +kernel
theorem dX1_enter_51 : decode cX1_enter 51 = .ok (.aload_n 0, 1) := by decide +kernel
theorem dX1_enter_52 : decode cX1_enter 52 = .ok (.getfield 42, 3) := by decide +kernel
theorem dX1_enter_55 : decode cX1_enter 55 = .ok (.if_icmp .ge 64, 3) := by decide +kernel
theorem dX1_enter_58 : decode cX1_enter 58 = .ok (.aload_n 0, 1) := by decide +kernel
theorem dX1_enter_59 : decode cX1_enter 59 = .ok (.iload_n 3, 1) := by decide +kernel
theorem dX1_enter_60 : decode cX1_enter 60 = .ok (.invokevirtual 75, 3) := by decide +kernel
theorem dX1_enter_63 : decode cX1_enter 63 = .ok (.ifCond .ne 6, 3) := by decide +kernel
theorem dX1_enter_66 : decode cX1_enter 66 = .ok (.goto 47, 3) := by decide +kernel
theorem dX1_enter_69 : decode cX1_enter 69 = .ok (.aload_n 0, 1) := by decide +kernel
theorem dX1_enter_70 : decode cX1_enter 70 = .ok (.getfield 25, 3) := by decide +kernel
theorem dX1_enter_73 : decode cX1_enter 73 = .ok (.iload_n 3, 1) := by decide +kernel
theorem dX1_enter_74 : decode cX1_enter 74 = .ok (.aload_n 0, 1) := by decide +kernel
theorem dX1_enter_75 : decode cX1_enter 75 = .ok (.getfield 25, 3) := by decide +kernel
theorem dX1_enter_78 : decode cX1_enter 78 = .ok (.iload_n 3, 1) := by decide +kernel
theorem dX1_enter_79 : decode cX1_enter 79 = .ok (.iaload, 1) := by decide +kernel
theorem dX1_enter_80 : decode cX1_enter 80 = .ok (.iconst 1, 1) := by decide +kernel
theorem dX1_enter_81 : decode cX1_enter 81 = .ok (.iload_n 1, 1) := by decide +kernel
theorem dX1_enter_82 : decode cX1_enter 82 = .ok (.ishl, 1) := by decide +kernel
theorem dX1_enter_83 : decode cX1_enter 83 = .ok (.ior, 1) := by decide +kernel
theorem dX1_enter_84 : decode cX1_enter 84 = .ok (.iastore, 1) := by decide +kernel
theorem dX1_enter_85 : decode cX1_enter 85 = .ok (.aload_n 0, 1) := by decide +kernel
theorem dX1_enter_86 : decode cX1_enter 86 = .ok (.getfield 22, 3) := by decide +kernel
theorem dX1_enter_89 : decode cX1_enter 89 = .ok (.iload_n 3, 1) := by decide +kernel
theorem dX1_enter_90 : decode cX1_enter 90 = .ok (.aload_n 0, 1) := by decide +kernel
theorem dX1_enter_91 : decode cX1_enter 91 = .ok (.getfield 22, 3) := by decide +kernel
theorem dX1_enter_94 : decode cX1_enter 94 = .ok (.iload_n 3, 1) := by decide +kernel
theorem dX1_enter_95 : decode cX1_enter 95 = .ok (.iaload, 1) := by decide +kernel
theorem dX1_enter_96 : decode cX1_enter 96 = .ok (.iload_n 2, 1) := by decide +kernel
theorem dX1_enter_97 : decode cX1_enter 97 = .ok (.if_icmp .le 12, 3) := by decide +kernel
theorem dX1_enter_100 : decode cX1_enter 100 = .ok (.aload_n 0, 1) := by decide +kernel
theorem dX1_enter_101 : decode cX1_enter 101 = .ok (.getfield 22, 3) := by decide +kernel
theorem dX1_enter_104 : decode cX1_enter 104 = .ok (.iload_n 3, 1) := by decide +kernel
theorem dX1_enter_105 : decode cX1_enter 105 = .ok (.iaload, 1) := by decide +kernel
theorem dX1_enter_106 : decode cX1_enter 106 = .ok (.goto 4, 3) := by decide +kernel
theorem dX1_enter_109 : decode cX1_enter 109 = .ok (.iload_n 2, 1) := by decide +kernel
theorem dX1_enter_110 : decode cX1_enter 110 = .ok (.iastore, 1) := by decide +kernel
theorem dX1_enter_111 : decode cX1_enter 111 = .ok (.iload_n 3, 1) := by decide +kernel
theorem dX1_enter_112 : decode cX1_enter 112 = .ok (.ireturn, 1) := by decide +kernel
theorem dX1_enter_113 : decode cX1_enter 113 = .ok (.iinc 3 1, 3) := by decide +kernel
theorem dX1_enter_116 : decode cX1_enter 116 = .ok (.goto (-66), 3) := by decide +kernel
theorem dX1_enter_119 : decode cX1_enter 119 = .ok (.aload_n 0, 1) := by decide +kernel
theorem dX1_enter_120 : decode cX1_enter 120 = .ok (.getfield 42, 3) := by decide +kernel
theorem dX1_enter_123 : decode cX1_enter 123 = .ok (.sipush 250, 3) := by decide +kernel
theorem dX1_enter_126 : decode cX1_enter 126 = .ok (.if_icmp .ne 5, 3) := by decide +kernel
theorem dX1_enter_129 : decode cX1_enter 129 = .ok (.iconst (-1), 1) := by decide +kernel
theorem dX1_enter_130 : decode cX1_enter 130 = .ok (.ireturn, 1) := by decide +kernel
theorem dX1_enter_131 : decode cX1_enter 131 = .ok (.iconst 0, 1) := by decide +kernel
theorem dX1_enter_132 : decode cX1_enter 132 = .ok (.istore_n 3, 1) := by decide +kernel
theorem dX1_enter_133 : decode cX1_enter 133 = .ok (.iload_n 3, 1) := by decide +kernel
theorem dX1_enter_134 : decode cX1_enter 134 = .ok (.aload_n 0, 1) := by decide +kernel
theorem dX1_enter_135 : decode cX1_enter 135 = .ok (.getfield 49, 3) := by decide +kernel
theorem dX1_enter_138 : decode cX1_enter 138 = .ok (.if_icmp .ge 28, 3) := by decide +kernel
theorem dX1_enter_141 : decode cX1_enter 141 = .ok (.aload_n 0, 1) := by decide +kernel
theorem dX1_enter_142 : decode cX1_enter 142 = .ok (.getfield 16, 3) := by decide +kernel
theorem dX1_enter_145 : decode cX1_enter 145 = .ok (.bipush 15, 2) := by decide +kernel
theorem dX1_enter_147 : decode cX1_enter 147 = .ok (.aload_n 0, 1) := by decide +kernel
theorem dX1_enter_148 : decode cX1_enter 148 = .ok (.getfield 42, 3) := by decide +kernel
theorem dX1_enter_151 : decode cX1_enter 151 = .ok (.imul, 1) := by decide +kernel
theorem dX1_enter_152 : decode cX1_enter 152 = .ok (.iload_n 3, 1) := by decide +kernel
theorem dX1_enter_153 : decode cX1_enter 153 = .ok (.iadd, 1) := by decide +kernel
theorem dX1_enter_154 : decode cX1_enter 154 = .ok (.aload_n 0, 1) := by decide +kernel
theorem dX1_enter_155 : decode cX1_enter 155 = .ok (.iload_n 3, 1) := by decide +kernel
theorem dX1_enter_156 : decode cX1_enter 156 = .ok (.invokevirtual 56, 3) := by decide +kernel
theorem dX1_enter_159 : decode cX1_enter 159 = .ok (.iastore, 1) := by decide +kernel
theorem dX1_enter_160 : decode cX1_enter 160 = .ok (.iinc 3 1, 3) := by decide +kernel
theorem dX1_enter_163 : decode cX1_enter 163 = .ok (.goto (-30), 3) := by decide +kernel
theorem dX1_enter_166 : decode cX1_enter 166 = .ok (.aload_n 0, 1) := by decide +kernel
theorem dX1_enter_167 : decode cX1_enter 167 = .ok (.getfield 19, 3) := by decide +kernel
theorem dX1_enter_170 : decode cX1_enter 170 = .ok (.aload_n 0, 1) := by decide +kernel
theorem dX1_enter_171 : decode cX1_enter 171 = .ok (.getfield 42, 3) := by decide +kernel
theorem dX1_enter_174 : decode cX1_enter 174 = .ok (.aload_n 0, 1) := by decide +kernel
theorem dX1_enter_175 : decode cX1_enter 175 = .ok (.getfield 49, 3) := by decide +kernel
theorem dX1_enter_178 : decode cX1_enter 178 = .ok (.iastore, 1) := by decide +kernel
theorem dX1_enter_179 : decode cX1_enter 179 = .ok (.aload_n 0, 1) := by decide +kernel
theorem dX1_enter_180 : decode cX1_enter 180 = .ok (.getfield 22, 3) := by decide +kernel
theorem dX1_enter_183 : decode cX1_enter 183 = .ok (.aload_n 0, 1) := by decide +kernel
theorem dX1_enter_184 : decode cX1_enter 184 = .ok (.getfield 42, 3) := by decide +kernel
theorem dX1_enter_187 : decode cX1_enter 187 = .ok (.iload_n 2, 1) := by decide +kernel
theorem dX1_enter_188 : decode cX1_enter 188 = .ok (.iastore, 1) := by decide +kernel
theorem dX1_enter_189 : decode cX1_enter 189 = .ok (.aload_n 0, 1) := by decide +kernel
theorem dX1_enter_190 : decode cX1_enter 190 = .ok (.getfield 25, 3) := by decide +kernel
theorem dX1_enter_193 : decode cX1_enter 193 = .ok (.aload_n 0, 1) := by decide +kernel
theorem dX1_enter_194 : decode cX1_enter 194 = .ok (.getfield 42, 3) := by decide +kernel
theorem dX1_enter_197 : decode cX1_enter 197 = .ok (.iconst 1, 1) := by decide +kernel
theorem dX1_enter_198 : decode cX1_enter 198 = .ok (.iload_n 1, 1) := by decide +kernel
theorem dX1_enter_199 : decode cX1_enter 199 = .ok (.ishl, 1) := by decide +kernel
theorem dX1_enter_200 : decode cX1_enter 200 = .ok (.iastore, 1) := by decide +kernel
theorem dX1_enter_201 : decode cX1_enter 201 = .ok (.aload_n 0, 1) := by decide +kernel
theorem dX1_enter_202 : decode cX1_enter 202 = .ok (.getfield 28, 3) := by decide +kernel
theorem dX1_enter_205 : decode cX1_enter 205 = .ok (.aload_n 0, 1) := by decide +kernel
theorem dX1_enter_206 : decode cX1_enter 206 = .ok (.getfield 42, 3) := by decide +kernel
theorem dX1_enter_209 : decode cX1_enter 209 = .ok (.iconst 0, 1) := by decide +kernel
theorem dX1_enter_210 : decode cX1_enter 210 = .ok (.bastore, 1) := by decide +kernel
theorem dX1_enter_211 : decode cX1_enter 211 = .ok (.aload_n 0, 1) := by decide +kernel
theorem dX1_enter_212 : decode cX1_enter 212 = .ok (.dup, 1) := by decide +kernel
theorem dX1_enter_213 : decode cX1_enter 213 = .ok (.getfield 42, 3) := by decide +kernel
theorem dX1_enter_216 : decode cX1_enter 216 = .ok (.iconst 1, 1) := by decide +kernel
theorem dX1_enter_217 : decode cX1_enter 217 = .ok (.iadd, 1) := by decide +kernel
theorem dX1_enter_218 : decode cX1_enter 218 = .ok (.putfield 42, 3) := by decide +kernel
theorem dX1_enter_221 : decode cX1_enter 221 = .ok (.aload_n 0, 1) := by decide +kernel
theorem dX1_enter_222 : decode cX1_enter 222 = .ok (.getfield 42, 3) := by decide +kernel
theorem dX1_enter_225 : decode cX1_enter 225 = .ok (.iconst 1, 1) := by decide +kernel
theorem dX1_enter_226 : decode cX1_enter 226 = .ok (.isub, 1) := by decide +kernel
theorem dX1_enter_227 : decode cX1_enter 227 = .ok (.ireturn, 1) := by decide +kernel
theorem dX1_bar_0 : decode cX1_bar 0 = .ok (.aload_n 0, 1) := by decide +kernel
theorem dX1_bar_1 : decode cX1_bar 1 = .ok (.iconst 0, 1) := by decide +kernel
theorem dX1_bar_2 : decode cX1_bar 2 = .ok (.putfield 38, 3) := by decide +kernel
theorem dX1_bar_5 : decode cX1_bar 5 = .ok (.iconst 0, 1) := by decide +kernel
theorem dX1_bar_6 : decode cX1_bar 6 = .ok (.istore_n 2, 1) := by decide +kernel
theorem dX1_bar_7 : decode cX1_bar 7 = .ok (.iconst 0, 1) := by decide +kernel
theorem dX1_bar_8 : decode cX1_bar 8 = .ok (.istore_n 3, 1) := by decide +kernel
theorem dX1_bar_9 : decode cX1_bar 9 = .ok (.iload_n 3, 1) := by decide +kernel
theorem dX1_bar_10 : decode cX1_bar 10 = .ok (.aload_n 0, 1) := by decide +kernel
theorem dX1_bar_11 : decode cX1_bar 11 = .ok (.getfield 42, 3) := by decide +kernel
theorem dX1_bar_14 : decode cX1_bar 14 = .ok (.if_icmp .ge 40, 3) := by decide +kernel
theorem dX1_bar_17 : decode cX1_bar 17 = .ok (.aload_n 0, 1) := by decide +kernel
theorem dX1_bar_18 : decode cX1_bar 18 = .ok (.iload_n 3, 1) := by decide +kernel
theorem dX1_bar_19 : decode cX1_bar 19 = .ok (.invokevirtual 75, 3) := by decide +kernel
theorem dX1_bar_22 : decode cX1_bar 22 = .ok (.ifCond .eq 26, 3) := by decide +kernel
theorem dX1_bar_25 : decode cX1_bar 25 = .ok (.aload_n 0, 1) := by decide +kernel
theorem dX1_bar_26 : decode cX1_bar 26 = .ok (.getfield 28, 3) := by decide +kernel
theorem dX1_bar_29 : decode cX1_bar 29 = .ok (.iload_n 3, 1) := by decide +kernel
theorem dX1_bar_30 : decode cX1_bar 30 = .ok (.baload, 1) := by decide +kernel
theorem dX1_bar_31 : decode cX1_bar 31 = .ok (.iload_n 1, 1) := by decide +kernel
theorem dX1_bar_32 : decode cX1_bar 32 = .ok (.if_icmp .ne 6, 3) := by decide +kernel
theorem dX1_bar_35 : decode cX1_bar 35 = .ok (.goto 13, 3) := by decide +kernel
theorem dX1_bar_38 : decode cX1_bar 38 = .ok (.aload_n 0, 1) := by decide +kernel
theorem dX1_bar_39 : decode cX1_bar 39 = .ok (.getfield 28, 3) := by decide +kernel
theorem dX1_bar_42 : decode cX1_bar 42 = .ok (.iload_n 3, 1) := by decide +kernel
theorem dX1_bar_43 : decode cX1_bar 43 = .ok (.iload_n 1, 1) := by decide +kernel
theorem dX1_bar_44 : decode cX1_bar 44 = .ok (.bastore, 1) := by decide +kernel
theorem dX1_bar_45 : decode cX1_bar 45 = .ok (.iinc 2 1, 3) := by decide +kernel
theorem dX1_bar_48 : decode cX1_bar 48 = .ok (.iinc 3 1, 3) := by decide +kernel
theorem dX1_bar_51 : decode cX1_bar 51 = .ok (.goto (-42), 3) := by decide +kernel
theorem dX1_bar_54 : decode cX1_bar 54 = .ok (.iload_n 2, 1) := by decide +kernel
theorem dX1_bar_55 : decode cX1_bar 55 = .ok (.ireturn, 1) := by decide +kernel
theorem dX1_merge_0 : decode cX1_merge 0 = .ok (.aload_n 0, 1) := by decide +kernel
theorem dX1_merge_1 : decode cX1_merge 1 = .ok (.iload_n 2, 1) := by decide +kernel
theorem dX1_merge_2 : decode cX1_merge 2 = .ok (.invokestatic 68, 3) := by decide +kernel
theorem dX1_merge_5 : decode cX1_merge 5 = .ok (.ifCond .eq 18, 3) := by decide +kernel
theorem dX1_merge_8 : decode cX1_merge 8 = .ok (.iload_n 3, 1) := by decide +kernel
theorem dX1_merge_9 : decode cX1_merge 9 = .ok (.invokestatic 68, 3) := by decide +kernel
theorem dX1_merge_12 : decode cX1_merge 12 = .ok (.ifCond .eq 11, 3) := by decide +kernel
theorem dX1_merge_15 : decode cX1_merge 15 = .ok (.iload 4, 2) := by decide +kernel
theorem dX1_merge_17 : decode cX1_merge 17 = .ok (.invokestatic 68, 3) := by decide +kernel
theorem dX1_merge_20 : decode cX1_merge 20 = .ok (.ifCond .ne 7, 3) := by decide +kernel
theorem dX1_merge_23 : decode cX1_merge 23 = .ok (.iconst 1, 1) := by decide +kernel
theorem dX1_merge_24 : decode cX1_merge 24 = .ok (.goto 4, 3) := by decide +kernel
theorem dX1_merge_27 : decode cX1_merge 27 = .ok (.iconst 0, 1) := by decide +kernel
theorem dX1_merge_28 : decode cX1_merge 28 = .ok (.invokevirtual 52, 3) := by decide +kernel
theorem dX1_merge_31 : decode cX1_merge 31 = .ok (.ifCond .eq 5, 3) := by decide +kernel
theorem dX1_merge_34 : decode cX1_merge 34 = .ok (.iconst 0, 1) := by decide +kernel
theorem dX1_merge_35 : decode cX1_merge 35 = .ok (.ireturn, 1) := by decide +kernel
theorem dX1_merge_36 : decode cX1_merge 36 = .ok (.iload_n 1, 1) := by decide +kernel
theorem dX1_merge_37 : decode cX1_merge 37 = .ok (.ifCond .lt 8, 3) := by decide +kernel
theorem dX1_merge_40 : decode cX1_merge 40 = .ok (.iload_n 1, 1) := by decide +kernel
theorem dX1_merge_41 : decode cX1_merge 41 = .ok (.iconst 2, 1) := by decide +kernel
theorem dX1_merge_42 : decode cX1_merge 42 = .ok (.if_icmp .le 5, 3) := by decide +kernel
theorem dX1_merge_45 : decode cX1_merge 45 = .ok (.iconst (-1), 1) := by decide +kernel
theorem dX1_merge_46 : decode cX1_merge 46 = .ok (.ireturn, 1) := by decide +kernel
theorem dX1_merge_47 : decode cX1_merge 47 = .ok (.iconst 0, 1) := by decide +kernel
theorem dX1_merge_48 : decode cX1_merge 48 = .ok (.istore 5, 2) := by decide +kernel
theorem dX1_merge_50 : decode cX1_merge 50 = .ok (.iconst 0, 1) := by decide +kernel
theorem dX1_merge_51 : decode cX1_merge 51 = .ok (.istore 6, 2) := by decide +kernel
theorem dX1_merge_53 : decode cX1_merge 53 = .ok (.iload 6, 2) := by decide +kernel
theorem dX1_merge_55 : decode cX1_merge 55 = .ok (.aload_n 0, 1) := by decide +kernel
theorem dX1_merge_56 : decode cX1_merge 56 = .ok (.getfield 42, 3) := by decide +kernel
theorem dX1_merge_59 : decode cX1_merge 59 = .ok (.if_icmp .ge 144, 3) := by decide +kernel
theorem dX1_merge_62 : decode cX1_merge 62 = .ok (.aload_n 0, 1) := by decide +kernel
theorem dX1_merge_63 : decode cX1_merge 63 = .ok (.iload 6, 2) := by decide +kernel
theorem dX1_merge_65 : decode cX1_merge 65 = .ok (.iload_n 3, 1) := by decide +kernel
theorem dX1_merge_66 : decode cX1_merge 66 = .ok (.invokevirtual 78, 3) := by decide +kernel
theorem dX1_merge_69 : decode cX1_merge 69 = .ok (.istore 7, 2) := by decide +kernel
theorem dX1_merge_71 : decode cX1_merge 71 = .ok (.aload_n 0, 1) := by decide +kernel
theorem dX1_merge_72 : decode cX1_merge 72 = .ok (.iload 6, 2) := by decide +kernel
theorem dX1_merge_74 : decode cX1_merge 74 = .ok (.iload 4, 2) := by decide +kernel
theorem dX1_merge_76 : decode cX1_merge 76 = .ok (.invokevirtual 78, 3) := by decide +kernel
theorem dX1_merge_79 : decode cX1_merge 79 = .ok (.istore 8, 2) := by decide +kernel
theorem dX1_merge_81 : decode cX1_merge 81 = .ok (.iload_n 1, 1) := by decide +kernel
theorem dX1_merge_82 : decode cX1_merge 82 = .ok (.ifCond .ne 21, 3) := by decide +kernel
theorem dX1_merge_85 : decode cX1_merge 85 = .ok (.iload 7, 2) := by decide +kernel
theorem dX1_merge_87 : decode cX1_merge 87 = .ok (.ifCond .ne 8, 3) := by decide +kernel
theorem dX1_merge_90 : decode cX1_merge 90 = .ok (.iload 8, 2) := by decide +kernel
theorem dX1_merge_92 : decode cX1_merge 92 = .ok (.ifCond .eq 7, 3) := by decide +kernel
theorem dX1_merge_95 : decode cX1_merge 95 = .ok (.iconst 1, 1) := by decide +kernel
theorem dX1_merge_96 : decode cX1_merge 96 = .ok (.goto 45, 3) := by decide +kernel
theorem dX1_merge_99 : decode cX1_merge 99 = .ok (.iconst 0, 1) := by decide +kernel
theorem dX1_merge_100 : decode cX1_merge 100 = .ok (.goto 41, 3) := by decide +kernel
theorem dX1_merge_103 : decode cX1_merge 103 = .ok (.iload_n 1, 1) := by decide +kernel
theorem dX1_merge_104 : decode cX1_merge 104 = .ok (.iconst 1, 1) := by decide +kernel
theorem dX1_merge_105 : decode cX1_merge 105 = .ok (.if_icmp .ne 21, 3) := by decide +kernel
theorem dX1_merge_108 : decode cX1_merge 108 = .ok (.iload 7, 2) := by decide +kernel
theorem dX1_merge_110 : decode cX1_merge 110 = .ok (.ifCond .eq 12, 3) := by decide +kernel
theorem dX1_merge_113 : decode cX1_merge 113 = .ok (.iload 8, 2) := by decide +kernel
theorem dX1_merge_115 : decode cX1_merge 115 = .ok (.ifCond .eq 7, 3) := by decide +kernel
theorem dX1_merge_118 : decode cX1_merge 118 = .ok (.iconst 1, 1) := by decide +kernel
theorem dX1_merge_119 : decode cX1_merge 119 = .ok (.goto 22, 3) := by decide +kernel
theorem dX1_merge_122 : decode cX1_merge 122 = .ok (.iconst 0, 1) := by decide +kernel
theorem dX1_merge_123 : decode cX1_merge 123 = .ok (.goto 18, 3) := by decide +kernel
theorem dX1_merge_126 : decode cX1_merge 126 = .ok (.iload 7, 2) := by decide +kernel
theorem dX1_merge_128 : decode cX1_merge 128 = .ok (.ifCond .eq 12, 3) := by decide +kernel
theorem dX1_merge_131 : decode cX1_merge 131 = .ok (.iload 8, 2) := by decide +kernel
theorem dX1_merge_133 : decode cX1_merge 133 = .ok (.ifCond .ne 7, 3) := by decide +kernel
theorem dX1_merge_136 : decode cX1_merge 136 = .ok (.iconst 1, 1) := by decide +kernel
theorem dX1_merge_137 : decode cX1_merge 137 = .ok (.goto 4, 3) := by decide +kernel
theorem dX1_merge_140 : decode cX1_merge 140 = .ok (.iconst 0, 1) := by decide +kernel
theorem dX1_merge_141 : decode cX1_merge 141 = .ok (.istore 9, 2) := by decide +kernel
theorem dX1_merge_143 : decode cX1_merge 143 = .ok (.aload_n 0, 1) := by decide +kernel
theorem dX1_merge_144 : decode cX1_merge 144 = .ok (.getfield 25, 3) := by decide +kernel
theorem dX1_merge_147 : decode cX1_merge 147 = .ok (.iload 6, 2) := by decide +kernel
theorem dX1_merge_149 : decode cX1_merge 149 = .ok (.iload 9, 2) := by decide +kernel
theorem dX1_merge_151 : decode cX1_merge 151 = .ok (.ifCond .eq 17, 3) := by decide +kernel
theorem dX1_merge_154 : decode cX1_merge 154 = .ok (.aload_n 0, 1) := by decide +kernel
theorem dX1_merge_155 : decode cX1_merge 155 = .ok (.getfield 25, 3) := by decide +kernel
theorem dX1_merge_158 : decode cX1_merge 158 = .ok (.iload 6, 2) := by decide +kernel
theorem dX1_merge_160 : decode cX1_merge 160 = .ok (.iaload, 1) := by decide +kernel
theorem dX1_merge_161 : decode cX1_merge 161 = .ok (.iconst 1, 1) := by decide +kernel
theorem dX1_merge_162 : decode cX1_merge 162 = .ok (.iload_n 2, 1) := by decide +kernel
theorem dX1_merge_163 : decode cX1_merge 163 = .ok (.ishl, 1) := by decide +kernel
theorem dX1_merge_164 : decode cX1_merge 164 = .ok (.ior, 1) := by decide +kernel
theorem dX1_merge_165 : decode cX1_merge 165 = .ok (.goto 16, 3) := by decide +kernel
theorem dX1_merge_168 : decode cX1_merge 168 = .ok (.aload_n 0, 1) := by decide +kernel
theorem dX1_merge_169 : decode cX1_merge 169 = .ok (.getfield 25, 3) := by decide +kernel
theorem dX1_merge_172 : decode cX1_merge 172 = .ok (.iload 6, 2) := by decide +kernel
theorem dX1_merge_174 : decode cX1_merge 174 = .ok (.iaload, 1) := by decide +kernel
theorem dX1_merge_175 : decode cX1_merge 175 = .ok (.iconst 1, 1) := by decide +kernel
theorem dX1_merge_176 : decode cX1_merge 176 = .ok (.iload_n 2, 1) := by decide +kernel
theorem dX1_merge_177 : decode cX1_merge 177 = .ok (.ishl, 1) := by decide +kernel
theorem dX1_merge_178 : decode cX1_merge 178 = .ok (.iconst (-1), 1) := by decide +kernel
theorem dX1_merge_179 : decode cX1_merge 179 = .ok (.ixor, 1) := by decide +kernel
theorem dX1_merge_180 : decode cX1_merge 180 = .ok (.iand, 1) := by decide +kernel
theorem dX1_merge_181 : decode cX1_merge 181 = .ok (.iastore, 1) := by decide +kernel
theorem dX1_merge_182 : decode cX1_merge 182 = .ok (.iload 5, 2) := by decide +kernel
theorem dX1_merge_184 : decode cX1_merge 184 = .ok (.iload 9, 2) := by decide +kernel
theorem dX1_merge_186 : decode cX1_merge 186 = .ok (.ifCond .eq 7, 3) := by decide +kernel
theorem dX1_merge_189 : decode cX1_merge 189 = .ok (.iconst 1, 1) := by decide +kernel
theorem dX1_merge_190 : decode cX1_merge 190 = .ok (.goto 4, 3) := by decide +kernel
theorem dX1_merge_193 : decode cX1_merge 193 = .ok (.iconst 0, 1) := by decide +kernel
theorem dX1_merge_194 : decode cX1_merge 194 = .ok (.iadd, 1) := by decide +kernel
theorem dX1_merge_195 : decode cX1_merge 195 = .ok (.istore 5, 2) := by decide +kernel
theorem dX1_merge_197 : decode cX1_merge 197 = .ok (.iinc 6 1, 3) := by decide +kernel
theorem dX1_merge_200 : decode cX1_merge 200 = .ok (.goto (-147), 3) := by decide +kernel
theorem dX1_merge_203 : decode cX1_merge 203 = .ok (.iload 5, 2) := by decide +kernel
theorem dX1_merge_205 : decode cX1_merge 205 = .ok (.ireturn, 1) := by decide +kernel
theorem dX1_isAhead_0 : decode cX1_isAhead 0 = .ok (.aload_n 0, 1) := by decide +kernel
theorem dX1_isAhead_1 : decode cX1_isAhead 1 = .ok (.getfield 22, 3) := by decide +kernel
theorem dX1_isAhead_4 : decode cX1_isAhead 4 = .ok (.iload_n 1, 1) := by decide +kernel
theorem dX1_isAhead_5 : decode cX1_isAhead 5 = .ok (.iaload, 1) := by decide +kernel
theorem dX1_isAhead_6 : decode cX1_isAhead 6 = .ok (.aload_n 0, 1) := by decide +kernel
theorem dX1_isAhead_7 : decode cX1_isAhead 7 = .ok (.getfield 22, 3) := by decide +kernel
theorem dX1_isAhead_10 : decode cX1_isAhead 10 = .ok (.iload_n 2, 1) := by decide +kernel
theorem dX1_isAhead_11 : decode cX1_isAhead 11 = .ok (.iaload, 1) := by decide +kernel
theorem dX1_isAhead_12 : decode cX1_isAhead 12 = .ok (.if_icmp .eq 24, 3) := by decide +kernel
theorem dX1_isAhead_15 : decode cX1_isAhead 15 = .ok (.aload_n 0, 1) := by decide +kernel
theorem dX1_isAhead_16 : decode cX1_isAhead 16 = .ok (.getfield 22, 3) := by decide +kernel
theorem dX1_isAhead_19 : decode cX1_isAhead 19 = .ok (.iload_n 1, 1) := by decide +kernel
theorem dX1_isAhead_20 : decode cX1_isAhead 20 = .ok (.iaload, 1) := by decide +kernel
theorem dX1_isAhead_21 : decode cX1_isAhead 21 = .ok (.aload_n 0, 1) := by decide +kernel
theorem dX1_isAhead_22 : decode cX1_isAhead 22 = .ok (.getfield 22, 3) := by decide +kernel
theorem dX1_isAhead_25 : decode cX1_isAhead 25 = .ok (.iload_n 2, 1) := by decide +kernel
theorem dX1_isAhead_26 : decode cX1_isAhead 26 = .ok (.iaload, 1) := by decide +kernel
theorem dX1_isAhead_27 : decode cX1_isAhead 27 = .ok (.if_icmp .le 7, 3) := by decide +kernel
theorem dX1_isAhead_30 : decode cX1_isAhead 30 = .ok (.iconst 1, 1) := by decide +kernel
theorem dX1_isAhead_31 : decode cX1_isAhead 31 = .ok (.goto 4, 3) := by decide +kernel
theorem dX1_isAhead_34 : decode cX1_isAhead 34 = .ok (.iconst 0, 1) := by decide +kernel
theorem dX1_isAhead_35 : decode cX1_isAhead 35 = .ok (.ireturn, 1) := by decide +kernel
theorem dX1_isAhead_36 : decode cX1_isAhead 36 = .ok (.iconst 0, 1) := by decide +kernel
theorem dX1_isAhead_37 : decode cX1_isAhead 37 = .ok (.istore_n 3, 1) := by decide +kernel
theorem dX1_isAhead_38 : decode cX1_isAhead 38 = .ok (.iload_n 3, 1) := by decide +kernel
theorem dX1_isAhead_39 : decode cX1_isAhead 39 = .ok (.bipush 15, 2) := by decide +kernel
theorem dX1_isAhead_41 : decode cX1_isAhead 41 = .ok (.if_icmp .ge 45, 3) := by decide +kernel
theorem dX1_isAhead_44 : decode cX1_isAhead 44 = .ok (.aload_n 0, 1) := by decide +kernel
theorem dX1_isAhead_45 : decode cX1_isAhead 45 = .ok (.iload_n 1, 1) := by decide +kernel
theorem dX1_isAhead_46 : decode cX1_isAhead 46 = .ok (.iload_n 3, 1) := by decide +kernel
theorem dX1_isAhead_47 : decode cX1_isAhead 47 = .ok (.invokevirtual 60, 3) := by decide +kernel
theorem dX1_isAhead_50 : decode cX1_isAhead 50 = .ok (.aload_n 0, 1) := by decide +kernel
theorem dX1_isAhead_51 : decode cX1_isAhead 51 = .ok (.iload_n 2, 1) := by decide +kernel
theorem dX1_isAhead_52 : decode cX1_isAhead 52 = .ok (.iload_n 3, 1) := by decide +kernel
theorem dX1_isAhead_53 : decode cX1_isAhead 53 = .ok (.invokevirtual 60, 3) := by decide +kernel
theorem dX1_isAhead_56 : decode cX1_isAhead 56 = .ok (.if_icmp .eq 24, 3) := by decide +kernel
theorem dX1_isAhead_59 : decode cX1_isAhead 59 = .ok (.aload_n 0, 1) := by decide +kernel
theorem dX1_isAhead_60 : decode cX1_isAhead 60 = .ok (.iload_n 1, 1) := by decide +kernel
theorem dX1_isAhead_61 : decode cX1_isAhead 61 = .ok (.iload_n 3, 1) := by decide +kernel
theorem dX1_isAhead_62 : decode cX1_isAhead 62 = .ok (.invokevirtual 60, 3) := by decide +kernel
theorem dX1_isAhead_65 : decode cX1_isAhead 65 = .ok (.aload_n 0, 1) := by decide +kernel
theorem dX1_isAhead_66 : decode cX1_isAhead 66 = .ok (.iload_n 2, 1) := by decide +kernel
theorem dX1_isAhead_67 : decode cX1_isAhead 67 = .ok (.iload_n 3, 1) := by decide +kernel
theorem dX1_isAhead_68 : decode cX1_isAhead 68 = .ok (.invokevirtual 60, 3) := by decide +kernel
theorem dX1_isAhead_71 : decode cX1_isAhead 71 = .ok (.if_icmp .ge 7, 3) := by decide +kernel
theorem dX1_isAhead_74 : decode cX1_isAhead 74 = .ok (.iconst 1, 1) := by decide +kernel
theorem dX1_isAhead_75 : decode cX1_isAhead 75 = .ok (.goto 4, 3) := by decide +kernel
theorem dX1_isAhead_78 : decode cX1_isAhead 78 = .ok (.iconst 0, 1) := by decide +kernel
theorem dX1_isAhead_79 : decode cX1_isAhead 79 = .ok (.ireturn, 1) := by decide +kernel
theorem dX1_isAhead_80 : decode cX1_isAhead 80 = .ok (.iinc 3 1, 3) := by decide +kernel
theorem dX1_isAhead_83 : decode cX1_isAhead 83 = .ok (.goto (-45), 3) := by decide +kernel
theorem dX1_isAhead_86 : decode cX1_isAhead 86 = .ok (.iconst 0, 1) := by decide +kernel
theorem dX1_isAhead_87 : decode cX1_isAhead 87 = .ok (.ireturn, 1) := by decide +kernel
theorem dX1_seek_0 : decode cX1_seek 0 = .ok (.aload_n 0, 1) := by decide +kernel
theorem dX1_seek_1 : decode cX1_seek 1 = .ok (.iload_n 1, 1) := by decide +kernel
theorem dX1_seek_2 : decode cX1_seek 2 = .ok (.invokestatic 68, 3) := by decide +kernel
theorem dX1_seek_5 : decode cX1_seek 5 = .ok (.ifCond .ne 7, 3) := by decide +kernel
theorem dX1_seek_8 : decode cX1_seek 8 = .ok (.iconst 1, 1) := by decide +kernel
theorem dX1_seek_9 : decode cX1_seek 9 = .ok (.goto 4, 3) := by decide +kernel
theorem dX1_seek_12 : decode cX1_seek 12 = .ok (.iconst 0, 1) := by decide +kernel
theorem dX1_seek_13 : decode cX1_seek 13 = .ok (.invokevirtual 52, 3) := by decide +kernel
theorem dX1_seek_16 : decode cX1_seek 16 = .ok (.ifCond .eq 5, 3) := by decide +kernel
theorem dX1_seek_19 : decode cX1_seek 19 = .ok (.iconst 0, 1) := by decide +kernel
theorem dX1_seek_20 : decode cX1_seek 20 = .ok (.ireturn, 1) := by decide +kernel
theorem dX1_seek_21 : decode cX1_seek 21 = .ok (.aload_n 0, 1) := by decide +kernel
theorem dX1_seek_22 : decode cX1_seek 22 = .ok (.iconst 0, 1) := by decide +kernel
theorem dX1_seek_23 : decode cX1_seek 23 = .ok (.putfield 81, 3) := by decide +kernel
theorem dX1_seek_26 : decode cX1_seek 26 = .ok (.iconst 0, 1) := by decide +kernel
theorem dX1_seek_27 : decode cX1_seek 27 = .ok (.istore_n 2, 1) := by decide +kernel
theorem dX1_seek_28 : decode cX1_seek 28 = .ok (.iload_n 2, 1) := by decide +kernel
theorem dX1_seek_29 : decode cX1_seek 29 = .ok (.aload_n 0, 1) := by decide +kernel
theorem dX1_seek_30 : decode cX1_seek 30 = .ok (.getfield 42, 3) := by decide +kernel
theorem dX1_seek_33 : decode cX1_seek 33 = .ok (.if_icmp .ge 100, 3) := by decide +kernel
theorem dX1_seek_36 : decode cX1_seek 36 = .ok (.aload_n 0, 1) := by decide +kernel
theorem dX1_seek_37 : decode cX1_seek 37 = .ok (.iload_n 2, 1) := by decide +kernel
theorem dX1_seek_38 : decode cX1_seek 38 = .ok (.iload_n 1, 1) := by decide +kernel
theorem dX1_seek_39 : decode cX1_seek 39 = .ok (.invokevirtual 78, 3) := by decide +kernel
theorem dX1_seek_42 : decode cX1_seek 42 = .ok (.ifCond .eq 85, 3) := by decide +kernel
theorem dX1_seek_45 : decode cX1_seek 45 = .ok (.aload_n 0, 1) := by decide +kernel
theorem dX1_seek_46 : decode cX1_seek 46 = .ok (.getfield 28, 3) := by decide +kernel
theorem dX1_seek_49 : decode cX1_seek 49 = .ok (.iload_n 2, 1) := by decide +kernel
theorem dX1_seek_50 : decode cX1_seek 50 = .ok (.baload, 1) := by decide +kernel
theorem dX1_seek_51 : decode cX1_seek 51 = .ok (.ifCond .ne 76, 3) := by decide +kernel
theorem dX1_seek_54 : decode cX1_seek 54 = .ok (.aload_n 0, 1) := by decide +kernel
theorem dX1_seek_55 : decode cX1_seek 55 = .ok (.iload_n 2, 1) := by decide +kernel
theorem dX1_seek_56 : decode cX1_seek 56 = .ok (.invokevirtual 75, 3) := by decide +kernel
theorem dX1_seek_59 : decode cX1_seek 59 = .ok (.ifCond .ne 6, 3) := by decide +kernel
theorem dX1_seek_62 : decode cX1_seek 62 = .ok (.goto 65, 3) := by decide +kernel
theorem dX1_seek_65 : decode cX1_seek 65 = .ok (.aload_n 0, 1) := by decide +kernel
theorem dX1_seek_66 : decode cX1_seek 66 = .ok (.getfield 81, 3) := by decide +kernel
theorem dX1_seek_69 : decode cX1_seek 69 = .ok (.istore_n 3, 1) := by decide +kernel
theorem dX1_seek_70 : decode cX1_seek 70 = .ok (.iload_n 3, 1) := by decide +kernel
theorem dX1_seek_71 : decode cX1_seek 71 = .ok (.ifCond .le 39, 3) := by decide +kernel
theorem dX1_seek_74 : decode cX1_seek 74 = .ok (.aload_n 0, 1) := by decide +kernel
theorem dX1_seek_75 : decode cX1_seek 75 = .ok (.iload_n 2, 1) := by decide +kernel
theorem dX1_seek_76 : decode cX1_seek 76 = .ok (.aload_n 0, 1) := by decide +kernel
theorem dX1_seek_77 : decode cX1_seek 77 = .ok (.getfield 32, 3) := by decide +kernel
theorem dX1_seek_80 : decode cX1_seek 80 = .ok (.iload_n 3, 1) := by decide +kernel
theorem dX1_seek_81 : decode cX1_seek 81 = .ok (.iconst 1, 1) := by decide +kernel
theorem dX1_seek_82 : decode cX1_seek 82 = .ok (.isub, 1) := by decide +kernel
theorem dX1_seek_83 : decode cX1_seek 83 = .ok (.iaload, 1) := by decide +kernel
theorem dX1_seek_84 : decode cX1_seek 84 = .ok (.invokevirtual 84, 3) := by decide +kernel
theorem dX1_seek_87 : decode cX1_seek 87 = .ok (.ifCond .eq 23, 3) := by decide +kernel
theorem dX1_seek_90 : decode cX1_seek 90 = .ok (.aload_n 0, 1) := by decide +kernel
theorem dX1_seek_91 : decode cX1_seek 91 = .ok (.getfield 32, 3) := by decide +kernel
theorem dX1_seek_94 : decode cX1_seek 94 = .ok (.iload_n 3, 1) := by decide +kernel
theorem dX1_seek_95 : decode cX1_seek 95 = .ok (.aload_n 0, 1) := by decide +kernel
theorem dX1_seek_96 : decode cX1_seek 96 = .ok (.getfield 32, 3) := by decide +kernel
theorem dX1_seek_99 : decode cX1_seek 99 = .ok (.iload_n 3, 1) := by decide +kernel
theorem dX1_seek_100 : decode cX1_seek 100 = .ok (.iconst 1, 1) := by decide +kernel
theorem dX1_seek_101 : decode cX1_seek 101 = .ok (.isub, 1) := by decide +kernel
theorem dX1_seek_102 : decode cX1_seek 102 = .ok (.iaload, 1) := by decide +kernel
theorem dX1_seek_103 : decode cX1_seek 103 = .ok (.iastore, 1) := by decide +kernel
theorem dX1_seek_104 : decode cX1_seek 104 = .ok (.iinc 3 (-1), 3) := by decide +kernel
theorem dX1_seek_107 : decode cX1_seek 107 = .ok (.goto (-37), 3) := by decide +kernel
theorem dX1_seek_110 : decode cX1_seek 110 = .ok (.aload_n 0, 1) := by decide +kernel
theorem dX1_seek_111 : decode cX1_seek 111 = .ok (.getfield 32, 3) := by decide +kernel
theorem dX1_seek_114 : decode cX1_seek 114 = .ok (.iload_n 3, 1) := by decide +kernel
theorem dX1_seek_115 : decode cX1_seek 115 = .ok (.iload_n 2, 1) := by decide +kernel
theorem dX1_seek_116 : decode cX1_seek 116 = .ok (.iastore, 1) := by decide +kernel
theorem dX1_seek_117 : decode cX1_seek 117 = .ok (.aload_n 0, 1) := by decide +kernel
theorem dX1_seek_118 : decode cX1_seek 118 = .ok (.dup, 1) := by decide +kernel
theorem dX1_seek_119 : decode cX1_seek 119 = .ok (.getfield 81, 3) := by decide +kernel
theorem dX1_seek_122 : decode cX1_seek 122 = .ok (.iconst 1, 1) := by decide +kernel
theorem dX1_seek_123 : decode cX1_seek 123 = .ok (.iadd, 1) := by decide +kernel
theorem dX1_seek_124 : decode cX1_seek 124 = .ok (.putfield 81, 3) := by decide +kernel
theorem dX1_seek_127 : decode cX1_seek 127 = .ok (.iinc 2 1, 3) := by decide +kernel
theorem dX1_seek_130 : decode cX1_seek 130 = .ok (.goto (-102), 3) := by decide +kernel
theorem dX1_seek_133 : decode cX1_seek 133 = .ok (.aload_n 0, 1) := by decide +kernel
theorem dX1_seek_134 : decode cX1_seek 134 = .ok (.getfield 81, 3) := by decide +kernel
theorem dX1_seek_137 : decode cX1_seek 137 = .ok (.ireturn, 1) := by decide +kernel
theorem dX1_candidate_0 : decode cX1_candidate 0 = .ok (.aload_n 0, 1) := by decide +kernel
theorem dX1_candidate_1 : decode cX1_candidate 1 = .ok (.iload_n 1, 1) := by decide +kernel
theorem dX1_candidate_2 : decode cX1_candidate 2 = .ok (.ifCond .lt 11, 3) := by decide +kernel
theorem dX1_candidate_5 : decode cX1_candidate 5 = .ok (.iload_n 1, 1) := by decide +kernel
theorem dX1_candidate_6 : decode cX1_candidate 6 = .ok (.aload_n 0, 1) := by decide +kernel
theorem dX1_candidate_7 : decode cX1_candidate 7 = .ok (.getfield 81, 3) := by decide +kernel
theorem dX1_candidate_10 : decode cX1_candidate 10 = .ok (.if_icmp .lt 7, 3) := by decide +kernel
theorem dX1_candidate_13 : decode cX1_candidate 13 = .ok (.iconst 1, 1) := by decide +kernel
theorem dX1_candidate_14 : decode cX1_candidate 14 = .ok (.goto 4, 3) := by decide +kernel
theorem dX1_candidate_17 : decode cX1_candidate 17 = .ok (.iconst 0, 1) := by decide +kernel
theorem dX1_candidate_18 : decode cX1_candidate 18 = .ok (.invokevirtual 52, 3) := by decide +kernel
theorem dX1_candidate_21 : decode cX1_candidate 21 = .ok (.ifCond .eq 7, 3) := by decide +kernel
theorem dX1_candidate_24 : decode cX1_candidate 24 = .ok (.iconst 0, 1) := by decide +kernel
theorem dX1_candidate_25 : decode cX1_candidate 25 = .ok (.goto 9, 3) := by decide +kernel
theorem dX1_candidate_28 : decode cX1_candidate 28 = .ok (.aload_n 0, 1) := by decide +kernel
theorem dX1_candidate_29 : decode cX1_candidate 29 = .ok (.getfield 32, 3) := by decide +kernel
theorem dX1_candidate_32 : decode cX1_candidate 32 = .ok (.iload_n 1, 1) := by decide +kernel
theorem dX1_candidate_33 : decode cX1_candidate 33 = .ok (.iaload, 1) := by decide +kernel
theorem dX1_candidate_34 : decode cX1_candidate 34 = .ok (.ireturn, 1) := by decide +kernel
theorem dX1_at_0 : decode cX1_at 0 = .ok (.aload_n 0, 1) := by decide +kernel
theorem dX1_at_1 : decode cX1_at 1 = .ok (.iload_n 2, 1) := by decide +kernel
theorem dX1_at_2 : decode cX1_at 2 = .ok (.invokestatic 45, 3) := by decide +kernel
theorem dX1_at_5 : decode cX1_at 5 = .ok (.ifCond .ne 7, 3) := by decide +kernel
theorem dX1_at_8 : decode cX1_at 8 = .ok (.iconst 1, 1) := by decide +kernel
theorem dX1_at_9 : decode cX1_at 9 = .ok (.goto 4, 3) := by decide +kernel
theorem dX1_at_12 : decode cX1_at 12 = .ok (.iconst 0, 1) := by decide +kernel
theorem dX1_at_13 : decode cX1_at 13 = .ok (.invokevirtual 52, 3) := by decide +kernel
theorem dX1_at_16 : decode cX1_at 16 = .ok (.ifCond .eq 5, 3) := by decide +kernel
theorem dX1_at_19 : decode cX1_at 19 = .ok (.iconst 0, 1) := by decide +kernel
theorem dX1_at_20 : decode cX1_at 20 = .ok (.ireturn, 1) := by decide +kernel
theorem dX1_at_21 : decode cX1_at 21 = .ok (.iconst 0, 1) := by decide +kernel
theorem dX1_at_22 : decode cX1_at 22 = .ok (.istore_n 3, 1) := by decide +kernel
theorem dX1_at_23 : decode cX1_at 23 = .ok (.iconst 0, 1) := by decide +kernel
theorem dX1_at_24 : decode cX1_at 24 = .ok (.istore 4, 2) := by decide +kernel
theorem dX1_at_26 : decode cX1_at 26 = .ok (.iload 4, 2) := by decide +kernel
theorem dX1_at_28 : decode cX1_at 28 = .ok (.aload_n 0, 1) := by decide +kernel
theorem dX1_at_29 : decode cX1_at 29 = .ok (.getfield 81, 3) := by decide +kernel
theorem dX1_at_32 : decode cX1_at 32 = .ok (.if_icmp .ge 53, 3) := by decide +kernel
theorem dX1_at_35 : decode cX1_at 35 = .ok (.iload_n 3, 1) := by decide +kernel
theorem dX1_at_36 : decode cX1_at 36 = .ok (.iload_n 1, 1) := by decide +kernel
theorem dX1_at_37 : decode cX1_at 37 = .ok (.ifCond .lt 39, 3) := by decide +kernel
theorem dX1_at_40 : decode cX1_at 40 = .ok (.iload_n 1, 1) := by decide +kernel
theorem dX1_at_41 : decode cX1_at 41 = .ok (.aload_n 0, 1) := by decide +kernel
theorem dX1_at_42 : decode cX1_at 42 = .ok (.getfield 19, 3) := by decide +kernel
theorem dX1_at_45 : decode cX1_at 45 = .ok (.aload_n 0, 1) := by decide +kernel
theorem dX1_at_46 : decode cX1_at 46 = .ok (.getfield 32, 3) := by decide +kernel
theorem dX1_at_49 : decode cX1_at 49 = .ok (.iload 4, 2) := by decide +kernel
theorem dX1_at_51 : decode cX1_at 51 = .ok (.iaload, 1) := by decide +kernel
theorem dX1_at_52 : decode cX1_at 52 = .ok (.iaload, 1) := by decide +kernel
theorem dX1_at_53 : decode cX1_at 53 = .ok (.if_icmp .ge 23, 3) := by decide +kernel
theorem dX1_at_56 : decode cX1_at 56 = .ok (.aload_n 0, 1) := by decide +kernel
theorem dX1_at_57 : decode cX1_at 57 = .ok (.aload_n 0, 1) := by decide +kernel
theorem dX1_at_58 : decode cX1_at 58 = .ok (.getfield 32, 3) := by decide +kernel
theorem dX1_at_61 : decode cX1_at 61 = .ok (.iload 4, 2) := by decide +kernel
theorem dX1_at_63 : decode cX1_at 63 = .ok (.iaload, 1) := by decide +kernel
theorem dX1_at_64 : decode cX1_at 64 = .ok (.iload_n 1, 1) := by decide +kernel
theorem dX1_at_65 : decode cX1_at 65 = .ok (.invokevirtual 60, 3) := by decide +kernel
theorem dX1_at_68 : decode cX1_at 68 = .ok (.iload_n 2, 1) := by decide +kernel
theorem dX1_at_69 : decode cX1_at 69 = .ok (.if_icmp .ne 7, 3) := by decide +kernel
theorem dX1_at_72 : decode cX1_at 72 = .ok (.iconst 1, 1) := by decide +kernel
theorem dX1_at_73 : decode cX1_at 73 = .ok (.goto 4, 3) := by decide +kernel
theorem dX1_at_76 : decode cX1_at 76 = .ok (.iconst 0, 1) := by decide +kernel
theorem dX1_at_77 : decode cX1_at 77 = .ok (.iadd, 1) := by decide +kernel
theorem dX1_at_78 : decode cX1_at 78 = .ok (.istore_n 3, 1) := by decide +kernel
theorem dX1_at_79 : decode cX1_at 79 = .ok (.iinc 4 1, 3) := by decide +kernel
theorem dX1_at_82 : decode cX1_at 82 = .ok (.goto (-56), 3) := by decide +kernel
theorem dX1_at_85 : decode cX1_at 85 = .ok (.iload_n 3, 1) := by decide +kernel
theorem dX1_at_86 : decode cX1_at 86 = .ok (.ireturn, 1) := by decide +kernel
theorem dX1_count_0 : decode cX1_count 0 = .ok (.aload_n 0, 1) := by decide +kernel
theorem dX1_count_1 : decode cX1_count 1 = .ok (.iload_n 1, 1) := by decide +kernel
theorem dX1_count_2 : decode cX1_count 2 = .ok (.invokestatic 68, 3) := by decide +kernel
theorem dX1_count_5 : decode cX1_count 5 = .ok (.ifCond .ne 7, 3) := by decide +kernel
theorem dX1_count_8 : decode cX1_count 8 = .ok (.iconst 1, 1) := by decide +kernel
theorem dX1_count_9 : decode cX1_count 9 = .ok (.goto 4, 3) := by decide +kernel
theorem dX1_count_12 : decode cX1_count 12 = .ok (.iconst 0, 1) := by decide +kernel
theorem dX1_count_13 : decode cX1_count 13 = .ok (.invokevirtual 52, 3) := by decide +kernel
theorem dX1_count_16 : decode cX1_count 16 = .ok (.ifCond .eq 5, 3) := by decide +kernel
theorem dX1_count_19 : decode cX1_count 19 = .ok (.iconst 0, 1) := by decide +kernel
theorem dX1_count_20 : decode cX1_count 20 = .ok (.ireturn, 1) := by decide +kernel
theorem dX1_count_21 : decode cX1_count 21 = .ok (.iconst 0, 1) := by decide +kernel
theorem dX1_count_22 : decode cX1_count 22 = .ok (.istore_n 3, 1) := by decide +kernel
theorem dX1_count_23 : decode cX1_count 23 = .ok (.iconst 0, 1) := by decide +kernel
theorem dX1_count_24 : decode cX1_count 24 = .ok (.istore 4, 2) := by decide +kernel
theorem dX1_count_26 : decode cX1_count 26 = .ok (.iload 4, 2) := by decide +kernel
theorem dX1_count_28 : decode cX1_count 28 = .ok (.aload_n 0, 1) := by decide +kernel
theorem dX1_count_29 : decode cX1_count 29 = .ok (.getfield 42, 3) := by decide +kernel
theorem dX1_count_32 : decode cX1_count 32 = .ok (.if_icmp .ge 80, 3) := by decide +kernel
theorem dX1_count_35 : decode cX1_count 35 = .ok (.iload_n 3, 1) := by decide +kernel
theorem dX1_count_36 : decode cX1_count 36 = .ok (.aload_n 0, 1) := by decide +kernel
theorem dX1_count_37 : decode cX1_count 37 = .ok (.iload 4, 2) := by decide +kernel
theorem dX1_count_39 : decode cX1_count 39 = .ok (.iload_n 1, 1) := by decide +kernel
theorem dX1_count_40 : decode cX1_count 40 = .ok (.invokevirtual 78, 3) := by decide +kernel
theorem dX1_count_43 : decode cX1_count 43 = .ok (.ifCond .eq 60, 3) := by decide +kernel
theorem dX1_count_46 : decode cX1_count 46 = .ok (.aload_n 0, 1) := by decide +kernel
theorem dX1_count_47 : decode cX1_count 47 = .ok (.getfield 28, 3) := by decide +kernel
theorem dX1_count_50 : decode cX1_count 50 = .ok (.iload 4, 2) := by decide +kernel
theorem dX1_count_52 : decode cX1_count 52 = .ok (.baload, 1) := by decide +kernel
theorem dX1_count_53 : decode cX1_count 53 = .ok (.ifCond .ne 50, 3) := by decide +kernel
theorem dX1_count_56 : decode cX1_count 56 = .ok (.aload_n 0, 1) := by decide +kernel
theorem dX1_count_57 : decode cX1_count 57 = .ok (.getfield 19, 3) := by decide +kernel
theorem dX1_count_60 : decode cX1_count 60 = .ok (.iload 4, 2) := by decide +kernel
theorem dX1_count_62 : decode cX1_count 62 = .ok (.iaload, 1) := by decide +kernel
theorem dX1_count_63 : decode cX1_count 63 = .ok (.aload_n 0, 1) := by decide +kernel
theorem dX1_count_64 : decode cX1_count 64 = .ok (.getfield 49, 3) := by decide +kernel
theorem dX1_count_67 : decode cX1_count 67 = .ok (.if_icmp .lt 36, 3) := by decide +kernel
theorem dX1_count_70 : decode cX1_count 70 = .ok (.aload_n 0, 1) := by decide +kernel
theorem dX1_count_71 : decode cX1_count 71 = .ok (.iload 4, 2) := by decide +kernel
theorem dX1_count_73 : decode cX1_count 73 = .ok (.iload_n 2, 1) := by decide +kernel
theorem dX1_count_74 : decode cX1_count 74 = .ok (.ifCond .eq 18, 3) := by decide +kernel
theorem dX1_count_77 : decode cX1_count 77 = .ok (.aload_n 0, 1) := by decide +kernel
theorem dX1_count_78 : decode cX1_count 78 = .ok (.getfield 19, 3) := by decide +kernel
theorem dX1_count_81 : decode cX1_count 81 = .ok (.iload 4, 2) := by decide +kernel
theorem dX1_count_83 : decode cX1_count 83 = .ok (.iaload, 1) := by decide +kernel
theorem dX1_count_84 : decode cX1_count 84 = .ok (.aload_n 0, 1) := by decide +kernel
theorem dX1_count_85 : decode cX1_count 85 = .ok (.getfield 49, 3) := by decide +kernel
theorem dX1_count_88 : decode cX1_count 88 = .ok (.isub, 1) := by decide +kernel
theorem dX1_count_89 : decode cX1_count 89 = .ok (.goto 4, 3) := by decide +kernel
theorem dX1_count_92 : decode cX1_count 92 = .ok (.iconst 0, 1) := by decide +kernel
theorem dX1_count_93 : decode cX1_count 93 = .ok (.invokevirtual 64, 3) := by decide +kernel
theorem dX1_count_96 : decode cX1_count 96 = .ok (.ifCond .eq 7, 3) := by decide +kernel
theorem dX1_count_99 : decode cX1_count 99 = .ok (.iconst 1, 1) := by decide +kernel
theorem dX1_count_100 : decode cX1_count 100 = .ok (.goto 4, 3) := by decide +kernel
theorem dX1_count_103 : decode cX1_count 103 = .ok (.iconst 0, 1) := by decide +kernel
theorem dX1_count_104 : decode cX1_count 104 = .ok (.iadd, 1) := by decide +kernel
theorem dX1_count_105 : decode cX1_count 105 = .ok (.istore_n 3, 1) := by decide +kernel
theorem dX1_count_106 : decode cX1_count 106 = .ok (.iinc 4 1, 3) := by decide +kernel
theorem dX1_count_109 : decode cX1_count 109 = .ok (.goto (-83), 3) := by decide +kernel
theorem dX1_count_112 : decode cX1_count 112 = .ok (.iload_n 3, 1) := by decide +kernel
theorem dX1_count_113 : decode cX1_count 113 = .ok (.ireturn, 1) := by decide +kernel
theorem dX1_begins_0 : decode cX1_begins 0 = .ok (.aload_n 0, 1) := by decide +kernel
theorem dX1_begins_1 : decode cX1_begins 1 = .ok (.iload_n 1, 1) := by decide +kernel
theorem dX1_begins_2 : decode cX1_begins 2 = .ok (.iconst 0, 1) := by decide +kernel
theorem dX1_begins_3 : decode cX1_begins 3 = .ok (.invokevirtual 87, 3) := by decide +kernel
theorem dX1_begins_6 : decode cX1_begins 6 = .ok (.ireturn, 1) := by decide +kernel
theorem dX1_ends_0 : decode cX1_ends 0 = .ok (.aload_n 0, 1) := by decide +kernel
theorem dX1_ends_1 : decode cX1_ends 1 = .ok (.iload_n 1, 1) := by decide +kernel
theorem dX1_ends_2 : decode cX1_ends 2 = .ok (.iconst 1, 1) := by decide +kernel
theorem dX1_ends_3 : decode cX1_ends 3 = .ok (.invokevirtual 87, 3) := by decide +kernel
theorem dX1_ends_6 : decode cX1_ends 6 = .ok (.ireturn, 1) := by decide +kernel
theorem dX1_isMixed_0 : decode cX1_isMixed 0 = .ok (.aload_n 0, 1) := by decide +kernel
theorem dX1_isMixed_1 : decode cX1_isMixed 1 = .ok (.getfield 19, 3) := by decide +kernel
theorem dX1_isMixed_4 : decode cX1_isMixed 4 = .ok (.iload_n 1, 1) := by decide +kernel
theorem dX1_isMixed_5 : decode cX1_isMixed 5 = .ok (.iaload, 1) := by decide +kernel
theorem dX1_isMixed_6 : decode cX1_isMixed 6 = .ok (.aload_n 0, 1) := by decide +kernel
theorem dX1_isMixed_7 : decode cX1_isMixed 7 = .ok (.getfield 49, 3) := by decide +kernel
theorem dX1_isMixed_10 : decode cX1_isMixed 10 = .ok (.if_icmp .eq 5, 3) := by decide +kernel
theorem dX1_isMixed_13 : decode cX1_isMixed 13 = .ok (.iconst 0, 1) := by decide +kernel
theorem dX1_isMixed_14 : decode cX1_isMixed 14 = .ok (.ireturn, 1) := by decide +kernel
theorem dX1_isMixed_15 : decode cX1_isMixed 15 = .ok (.iconst 0, 1) := by decide +kernel
theorem dX1_isMixed_16 : decode cX1_isMixed 16 = .ok (.istore_n 2, 1) := by decide +kernel
theorem dX1_isMixed_17 : decode cX1_isMixed 17 = .ok (.iload_n 2, 1) := by decide +kernel
theorem dX1_isMixed_18 : decode cX1_isMixed 18 = .ok (.bipush 26, 2) := by decide +kernel
theorem dX1_isMixed_20 : decode cX1_isMixed 20 = .ok (.if_icmp .ge 16, 3) := by decide +kernel
theorem dX1_isMixed_23 : decode cX1_isMixed 23 = .ok (.aload_n 0, 1) := by decide +kernel
theorem dX1_isMixed_24 : decode cX1_isMixed 24 = .ok (.getfield 35, 3) := by decide +kernel
theorem dX1_isMixed_27 : decode cX1_isMixed 27 = .ok (.iload_n 2, 1) := by decide +kernel
theorem dX1_isMixed_28 : decode cX1_isMixed 28 = .ok (.iconst 0, 1) := by decide +kernel
theorem dX1_isMixed_29 : decode cX1_isMixed 29 = .ok (.iastore, 1) := by decide +kernel
theorem dX1_isMixed_30 : decode cX1_isMixed 30 = .ok (.iinc 2 1, 3) := by decide +kernel
theorem dX1_isMixed_33 : decode cX1_isMixed 33 = .ok (.goto (-16), 3) := by decide +kernel
theorem dX1_isMixed_36 : decode cX1_isMixed 36 = .ok (.iconst 0, 1) := by decide +kernel
theorem dX1_isMixed_37 : decode cX1_isMixed 37 = .ok (.istore_n 2, 1) := by decide +kernel
theorem dX1_isMixed_38 : decode cX1_isMixed 38 = .ok (.iload_n 2, 1) := by decide +kernel
theorem dX1_isMixed_39 : decode cX1_isMixed 39 = .ok (.aload_n 0, 1) := by decide +kernel
theorem dX1_isMixed_40 : decode cX1_isMixed 40 = .ok (.getfield 49, 3) := by decide +kernel
theorem dX1_isMixed_43 : decode cX1_isMixed 43 = .ok (.if_icmp .ge 36, 3) := by decide +kernel
theorem dX1_isMixed_46 : decode cX1_isMixed 46 = .ok (.aload_n 0, 1) := by decide +kernel
theorem dX1_isMixed_47 : decode cX1_isMixed 47 = .ok (.iload_n 2, 1) := by decide +kernel
theorem dX1_isMixed_48 : decode cX1_isMixed 48 = .ok (.invokevirtual 56, 3) := by decide +kernel
theorem dX1_isMixed_51 : decode cX1_isMixed 51 = .ok (.bipush 63, 2) := by decide +kernel
theorem dX1_isMixed_53 : decode cX1_isMixed 53 = .ok (.if_icmp .eq 20, 3) := by decide +kernel
theorem dX1_isMixed_56 : decode cX1_isMixed 56 = .ok (.aload_n 0, 1) := by decide +kernel
theorem dX1_isMixed_57 : decode cX1_isMixed 57 = .ok (.getfield 35, 3) := by decide +kernel
theorem dX1_isMixed_60 : decode cX1_isMixed 60 = .ok (.aload_n 0, 1) := by decide +kernel
theorem dX1_isMixed_61 : decode cX1_isMixed 61 = .ok (.iload_n 2, 1) := by decide +kernel
theorem dX1_isMixed_62 : decode cX1_isMixed 62 = .ok (.invokevirtual 56, 3) := by decide +kernel
theorem dX1_isMixed_65 : decode cX1_isMixed 65 = .ok (.bipush 97, 2) := by decide +kernel
theorem dX1_isMixed_67 : decode cX1_isMixed 67 = .ok (.isub, 1) := by decide +kernel
theorem dX1_isMixed_68 : decode cX1_isMixed 68 = .ok (.dup2, 1) := by decide +kernel
theorem dX1_isMixed_69 : decode cX1_isMixed 69 = .ok (.iaload, 1) := by decide +kernel
theorem dX1_isMixed_70 : decode cX1_isMixed 70 = .ok (.iconst 1, 1) := by decide +kernel
theorem dX1_isMixed_71 : decode cX1_isMixed 71 = .ok (.iadd, 1) := by decide +kernel
theorem dX1_isMixed_72 : decode cX1_isMixed 72 = .ok (.iastore, 1) := by decide +kernel
theorem dX1_isMixed_73 : decode cX1_isMixed 73 = .ok (.iinc 2 1, 3) := by decide +kernel
theorem dX1_isMixed_76 : decode cX1_isMixed 76 = .ok (.goto (-38), 3) := by decide +kernel
theorem dX1_isMixed_79 : decode cX1_isMixed 79 = .ok (.iconst 0, 1) := by decide +kernel
theorem dX1_isMixed_80 : decode cX1_isMixed 80 = .ok (.istore_n 2, 1) := by decide +kernel
theorem dX1_isMixed_81 : decode cX1_isMixed 81 = .ok (.iload_n 2, 1) := by decide +kernel
theorem dX1_isMixed_82 : decode cX1_isMixed 82 = .ok (.aload_n 0, 1) := by decide +kernel
theorem dX1_isMixed_83 : decode cX1_isMixed 83 = .ok (.getfield 49, 3) := by decide +kernel
theorem dX1_isMixed_86 : decode cX1_isMixed 86 = .ok (.if_icmp .ge 27, 3) := by decide +kernel
theorem dX1_isMixed_89 : decode cX1_isMixed 89 = .ok (.aload_n 0, 1) := by decide +kernel
theorem dX1_isMixed_90 : decode cX1_isMixed 90 = .ok (.getfield 35, 3) := by decide +kernel
theorem dX1_isMixed_93 : decode cX1_isMixed 93 = .ok (.aload_n 0, 1) := by decide +kernel
theorem dX1_isMixed_94 : decode cX1_isMixed 94 = .ok (.iload_n 1, 1) := by decide +kernel
theorem dX1_isMixed_95 : decode cX1_isMixed 95 = .ok (.iload_n 2, 1) := by decide +kernel
theorem dX1_isMixed_96 : decode cX1_isMixed 96 = .ok (.invokevirtual 60, 3) := by decide +kernel
theorem dX1_isMixed_99 : decode cX1_isMixed 99 = .ok (.bipush 97, 2) := by decide +kernel
theorem dX1_isMixed_101 : decode cX1_isMixed 101 = .ok (.isub, 1) := by decide +kernel
theorem dX1_isMixed_102 : decode cX1_isMixed 102 = .ok (.dup2, 1) := by decide +kernel
theorem dX1_isMixed_103 : decode cX1_isMixed 103 = .ok (.iaload, 1) := by decide +kernel
theorem dX1_isMixed_104 : decode cX1_isMixed 104 = .ok (.iconst 1, 1) := by decide +kernel
theorem dX1_isMixed_105 : decode cX1_isMixed 105 = .ok (.isub, 1) := by decide +kernel
theorem dX1_isMixed_106 : decode cX1_isMixed 106 = .ok (.iastore, 1) := by decide +kernel
theorem dX1_isMixed_107 : decode cX1_isMixed 107 = .ok (.iinc 2 1, 3) := by decide +kernel
theorem dX1_isMixed_110 : decode cX1_isMixed 110 = .ok (.goto (-29), 3) := by decide +kernel
theorem dX1_isMixed_113 : decode cX1_isMixed 113 = .ok (.iconst 0, 1) := by decide +kernel
theorem dX1_isMixed_114 : decode cX1_isMixed 114 = .ok (.istore_n 2, 1) := by decide +kernel
theorem dX1_isMixed_115 : decode cX1_isMixed 115 = .ok (.iload_n 2, 1) := by decide +kernel
theorem dX1_isMixed_116 : decode cX1_isMixed 116 = .ok (.bipush 26, 2) := by decide +kernel
theorem dX1_isMixed_118 : decode cX1_isMixed 118 = .ok (.if_icmp .ge 20, 3) := by decide +kernel
theorem dX1_isMixed_121 : decode cX1_isMixed 121 = .ok (.aload_n 0, 1) := by decide +kernel
theorem dX1_isMixed_122 : decode cX1_isMixed 122 = .ok (.getfield 35, 3) := by decide +kernel
theorem dX1_isMixed_125 : decode cX1_isMixed 125 = .ok (.iload_n 2, 1) := by decide +kernel
theorem dX1_isMixed_126 : decode cX1_isMixed 126 = .ok (.iaload, 1) := by decide +kernel
theorem dX1_isMixed_127 : decode cX1_isMixed 127 = .ok (.ifCond .le 5, 3) := by decide +kernel
theorem dX1_isMixed_130 : decode cX1_isMixed 130 = .ok (.iconst 0, 1) := by decide +kernel
theorem dX1_isMixed_131 : decode cX1_isMixed 131 = .ok (.ireturn, 1) := by decide +kernel
theorem dX1_isMixed_132 : decode cX1_isMixed 132 = .ok (.iinc 2 1, 3) := by decide +kernel
theorem dX1_isMixed_135 : decode cX1_isMixed 135 = .ok (.goto (-20), 3) := by decide +kernel
theorem dX1_isMixed_138 : decode cX1_isMixed 138 = .ok (.iconst 1, 1) := by decide +kernel
theorem dX1_isMixed_139 : decode cX1_isMixed 139 = .ok (.ireturn, 1) := by decide +kernel
theorem dX1_mixed_0 : decode cX1_mixed 0 = .ok (.aload_n 0, 1) := by decide +kernel
theorem dX1_mixed_1 : decode cX1_mixed 1 = .ok (.iload_n 1, 1) := by decide +kernel
theorem dX1_mixed_2 : decode cX1_mixed 2 = .ok (.invokestatic 68, 3) := by decide +kernel
theorem dX1_mixed_5 : decode cX1_mixed 5 = .ok (.ifCond .ne 7, 3) := by decide +kernel
theorem dX1_mixed_8 : decode cX1_mixed 8 = .ok (.iconst 1, 1) := by decide +kernel
theorem dX1_mixed_9 : decode cX1_mixed 9 = .ok (.goto 4, 3) := by decide +kernel
theorem dX1_mixed_12 : decode cX1_mixed 12 = .ok (.iconst 0, 1) := by decide +kernel
theorem dX1_mixed_13 : decode cX1_mixed 13 = .ok (.invokevirtual 52, 3) := by decide +kernel
theorem dX1_mixed_16 : decode cX1_mixed 16 = .ok (.ifCond .eq 5, 3) := by decide +kernel
theorem dX1_mixed_19 : decode cX1_mixed 19 = .ok (.iconst 0, 1) := by decide +kernel
theorem dX1_mixed_20 : decode cX1_mixed 20 = .ok (.ireturn, 1) := by decide +kernel
theorem dX1_mixed_21 : decode cX1_mixed 21 = .ok (.iconst 0, 1) := by decide +kernel
theorem dX1_mixed_22 : decode cX1_mixed 22 = .ok (.istore_n 2, 1) := by decide +kernel
theorem dX1_mixed_23 : decode cX1_mixed 23 = .ok (.iconst 0, 1) := by decide +kernel
theorem dX1_mixed_24 : decode cX1_mixed 24 = .ok (.istore_n 3, 1) := by decide +kernel
theorem dX1_mixed_25 : decode cX1_mixed 25 = .ok (.iload_n 3, 1) := by decide +kernel
theorem dX1_mixed_26 : decode cX1_mixed 26 = .ok (.aload_n 0, 1) := by decide +kernel
theorem dX1_mixed_27 : decode cX1_mixed 27 = .ok (.getfield 42, 3) := by decide +kernel
theorem dX1_mixed_30 : decode cX1_mixed 30 = .ok (.if_icmp .ge 43, 3) := by decide +kernel
theorem dX1_mixed_33 : decode cX1_mixed 33 = .ok (.iload_n 2, 1) := by decide +kernel
theorem dX1_mixed_34 : decode cX1_mixed 34 = .ok (.aload_n 0, 1) := by decide +kernel
theorem dX1_mixed_35 : decode cX1_mixed 35 = .ok (.iload_n 3, 1) := by decide +kernel
theorem dX1_mixed_36 : decode cX1_mixed 36 = .ok (.iload_n 1, 1) := by decide +kernel
theorem dX1_mixed_37 : decode cX1_mixed 37 = .ok (.invokevirtual 78, 3) := by decide +kernel
theorem dX1_mixed_40 : decode cX1_mixed 40 = .ok (.ifCond .eq 24, 3) := by decide +kernel
theorem dX1_mixed_43 : decode cX1_mixed 43 = .ok (.aload_n 0, 1) := by decide +kernel
theorem dX1_mixed_44 : decode cX1_mixed 44 = .ok (.getfield 28, 3) := by decide +kernel
theorem dX1_mixed_47 : decode cX1_mixed 47 = .ok (.iload_n 3, 1) := by decide +kernel
theorem dX1_mixed_48 : decode cX1_mixed 48 = .ok (.baload, 1) := by decide +kernel
theorem dX1_mixed_49 : decode cX1_mixed 49 = .ok (.ifCond .ne 15, 3) := by decide +kernel
theorem dX1_mixed_52 : decode cX1_mixed 52 = .ok (.aload_n 0, 1) := by decide +kernel
theorem dX1_mixed_53 : decode cX1_mixed 53 = .ok (.iload_n 3, 1) := by decide +kernel
theorem dX1_mixed_54 : decode cX1_mixed 54 = .ok (.invokevirtual 91, 3) := by decide +kernel
theorem dX1_mixed_57 : decode cX1_mixed 57 = .ok (.ifCond .eq 7, 3) := by decide +kernel
theorem dX1_mixed_60 : decode cX1_mixed 60 = .ok (.iconst 1, 1) := by decide +kernel
theorem dX1_mixed_61 : decode cX1_mixed 61 = .ok (.goto 4, 3) := by decide +kernel
theorem dX1_mixed_64 : decode cX1_mixed 64 = .ok (.iconst 0, 1) := by decide +kernel
theorem dX1_mixed_65 : decode cX1_mixed 65 = .ok (.iadd, 1) := by decide +kernel
theorem dX1_mixed_66 : decode cX1_mixed 66 = .ok (.istore_n 2, 1) := by decide +kernel
theorem dX1_mixed_67 : decode cX1_mixed 67 = .ok (.iinc 3 1, 3) := by decide +kernel
theorem dX1_mixed_70 : decode cX1_mixed 70 = .ok (.goto (-45), 3) := by decide +kernel
theorem dX1_mixed_73 : decode cX1_mixed 73 = .ok (.iload_n 2, 1) := by decide +kernel
theorem dX1_mixed_74 : decode cX1_mixed 74 = .ok (.ireturn, 1) := by decide +kernel
theorem dX1_many_0 : decode cX1_many 0 = .ok (.aload_n 0, 1) := by decide +kernel
theorem dX1_many_1 : decode cX1_many 1 = .ok (.iload_n 1, 1) := by decide +kernel
theorem dX1_many_2 : decode cX1_many 2 = .ok (.invokestatic 68, 3) := by decide +kernel
theorem dX1_many_5 : decode cX1_many 5 = .ok (.ifCond .ne 7, 3) := by decide +kernel
theorem dX1_many_8 : decode cX1_many 8 = .ok (.iconst 1, 1) := by decide +kernel
theorem dX1_many_9 : decode cX1_many 9 = .ok (.goto 4, 3) := by decide +kernel
theorem dX1_many_12 : decode cX1_many 12 = .ok (.iconst 0, 1) := by decide +kernel
theorem dX1_many_13 : decode cX1_many 13 = .ok (.invokevirtual 52, 3) := by decide +kernel
theorem dX1_many_16 : decode cX1_many 16 = .ok (.ifCond .eq 5, 3) := by decide +kernel
theorem dX1_many_19 : decode cX1_many 19 = .ok (.iconst 0, 1) := by decide +kernel
theorem dX1_many_20 : decode cX1_many 20 = .ok (.ireturn, 1) := by decide +kernel
theorem dX1_many_21 : decode cX1_many 21 = .ok (.iload_n 2, 1) := by decide +kernel
theorem dX1_many_22 : decode cX1_many 22 = .ok (.iconst 1, 1) := by decide +kernel
theorem dX1_many_23 : decode cX1_many 23 = .ok (.if_icmp .lt 9, 3) := by decide +kernel
theorem dX1_many_26 : decode cX1_many 26 = .ok (.iload_n 2, 1) := by decide +kernel
theorem dX1_many_27 : decode cX1_many 27 = .ok (.bipush 15, 2) := by decide +kernel
theorem dX1_many_29 : decode cX1_many 29 = .ok (.if_icmp .le 5, 3) := by decide +kernel
theorem dX1_many_32 : decode cX1_many 32 = .ok (.iconst (-1), 1) := by decide +kernel
theorem dX1_many_33 : decode cX1_many 33 = .ok (.ireturn, 1) := by decide +kernel
theorem dX1_many_34 : decode cX1_many 34 = .ok (.iconst 0, 1) := by decide +kernel
theorem dX1_many_35 : decode cX1_many 35 = .ok (.istore_n 3, 1) := by decide +kernel
theorem dX1_many_36 : decode cX1_many 36 = .ok (.iconst 0, 1) := by decide +kernel
theorem dX1_many_37 : decode cX1_many 37 = .ok (.istore 4, 2) := by decide +kernel
theorem dX1_many_39 : decode cX1_many 39 = .ok (.iload 4, 2) := by decide +kernel
theorem dX1_many_41 : decode cX1_many 41 = .ok (.aload_n 0, 1) := by decide +kernel
theorem dX1_many_42 : decode cX1_many 42 = .ok (.getfield 42, 3) := by decide +kernel
theorem dX1_many_45 : decode cX1_many 45 = .ok (.if_icmp .ge 38, 3) := by decide +kernel
theorem dX1_many_48 : decode cX1_many 48 = .ok (.iload_n 3, 1) := by decide +kernel
theorem dX1_many_49 : decode cX1_many 49 = .ok (.aload_n 0, 1) := by decide +kernel
theorem dX1_many_50 : decode cX1_many 50 = .ok (.iload 4, 2) := by decide +kernel
theorem dX1_many_52 : decode cX1_many 52 = .ok (.iload_n 1, 1) := by decide +kernel
theorem dX1_many_53 : decode cX1_many 53 = .ok (.invokevirtual 78, 3) := by decide +kernel
theorem dX1_many_56 : decode cX1_many 56 = .ok (.ifCond .eq 18, 3) := by decide +kernel
theorem dX1_many_59 : decode cX1_many 59 = .ok (.aload_n 0, 1) := by decide +kernel
theorem dX1_many_60 : decode cX1_many 60 = .ok (.getfield 19, 3) := by decide +kernel
theorem dX1_many_63 : decode cX1_many 63 = .ok (.iload 4, 2) := by decide +kernel
theorem dX1_many_65 : decode cX1_many 65 = .ok (.iaload, 1) := by decide +kernel
theorem dX1_many_66 : decode cX1_many 66 = .ok (.iload_n 2, 1) := by decide +kernel
theorem dX1_many_67 : decode cX1_many 67 = .ok (.if_icmp .ne 7, 3) := by decide +kernel
theorem dX1_many_70 : decode cX1_many 70 = .ok (.iconst 1, 1) := by decide +kernel
theorem dX1_many_71 : decode cX1_many 71 = .ok (.goto 4, 3) := by decide +kernel
theorem dX1_many_74 : decode cX1_many 74 = .ok (.iconst 0, 1) := by decide +kernel
theorem dX1_many_75 : decode cX1_many 75 = .ok (.iadd, 1) := by decide +kernel
theorem dX1_many_76 : decode cX1_many 76 = .ok (.istore_n 3, 1) := by decide +kernel
theorem dX1_many_77 : decode cX1_many 77 = .ok (.iinc 4 1, 3) := by decide +kernel
theorem dX1_many_80 : decode cX1_many 80 = .ok (.goto (-41), 3) := by decide +kernel
theorem dX1_many_83 : decode cX1_many 83 = .ok (.iload_n 3, 1) := by decide +kernel
theorem dX1_many_84 : decode cX1_many 84 = .ok (.ireturn, 1) := by decide +kernel
theorem dX1_letters_0 : decode cX1_letters 0 = .ok (.aload_n 0, 1) := by decide +kernel
theorem dX1_letters_1 : decode cX1_letters 1 = .ok (.iload_n 1, 1) := by decide +kernel
theorem dX1_letters_2 : decode cX1_letters 2 = .ok (.invokestatic 68, 3) := by decide +kernel
theorem dX1_letters_5 : decode cX1_letters 5 = .ok (.ifCond .eq 10, 3) := by decide +kernel
theorem dX1_letters_8 : decode cX1_letters 8 = .ok (.iload_n 2, 1) := by decide +kernel
theorem dX1_letters_9 : decode cX1_letters 9 = .ok (.invokestatic 45, 3) := by decide +kernel
theorem dX1_letters_12 : decode cX1_letters 12 = .ok (.ifCond .ne 7, 3) := by decide +kernel
theorem dX1_letters_15 : decode cX1_letters 15 = .ok (.iconst 1, 1) := by decide +kernel
theorem dX1_letters_16 : decode cX1_letters 16 = .ok (.goto 4, 3) := by decide +kernel
theorem dX1_letters_19 : decode cX1_letters 19 = .ok (.iconst 0, 1) := by decide +kernel
theorem dX1_letters_20 : decode cX1_letters 20 = .ok (.invokevirtual 52, 3) := by decide +kernel
theorem dX1_letters_23 : decode cX1_letters 23 = .ok (.ifCond .eq 5, 3) := by decide +kernel
theorem dX1_letters_26 : decode cX1_letters 26 = .ok (.iconst 0, 1) := by decide +kernel
theorem dX1_letters_27 : decode cX1_letters 27 = .ok (.ireturn, 1) := by decide +kernel
theorem dX1_letters_28 : decode cX1_letters 28 = .ok (.iconst 0, 1) := by decide +kernel
theorem dX1_letters_29 : decode cX1_letters 29 = .ok (.istore_n 3, 1) := by decide +kernel
theorem dX1_letters_30 : decode cX1_letters 30 = .ok (.iconst 0, 1) := by decide +kernel
theorem dX1_letters_31 : decode cX1_letters 31 = .ok (.istore 4, 2) := by decide +kernel
theorem dX1_letters_33 : decode cX1_letters 33 = .ok (.iload 4, 2) := by decide +kernel
theorem dX1_letters_35 : decode cX1_letters 35 = .ok (.aload_n 0, 1) := by decide +kernel
theorem dX1_letters_36 : decode cX1_letters 36 = .ok (.getfield 42, 3) := by decide +kernel
theorem dX1_letters_39 : decode cX1_letters 39 = .ok (.if_icmp .ge 60, 3) := by decide +kernel
theorem dX1_letters_42 : decode cX1_letters 42 = .ok (.iconst 0, 1) := by decide +kernel
theorem dX1_letters_43 : decode cX1_letters 43 = .ok (.istore 5, 2) := by decide +kernel
theorem dX1_letters_45 : decode cX1_letters 45 = .ok (.iload 5, 2) := by decide +kernel
theorem dX1_letters_47 : decode cX1_letters 47 = .ok (.aload_n 0, 1) := by decide +kernel
theorem dX1_letters_48 : decode cX1_letters 48 = .ok (.getfield 19, 3) := by decide +kernel
theorem dX1_letters_51 : decode cX1_letters 51 = .ok (.iload 4, 2) := by decide +kernel
theorem dX1_letters_53 : decode cX1_letters 53 = .ok (.iaload, 1) := by decide +kernel
theorem dX1_letters_54 : decode cX1_letters 54 = .ok (.if_icmp .ge 39, 3) := by decide +kernel
theorem dX1_letters_57 : decode cX1_letters 57 = .ok (.aload_n 0, 1) := by decide +kernel
theorem dX1_letters_58 : decode cX1_letters 58 = .ok (.iload 4, 2) := by decide +kernel
theorem dX1_letters_60 : decode cX1_letters 60 = .ok (.iload_n 1, 1) := by decide +kernel
theorem dX1_letters_61 : decode cX1_letters 61 = .ok (.invokevirtual 78, 3) := by decide +kernel
theorem dX1_letters_64 : decode cX1_letters 64 = .ok (.ifCond .eq 29, 3) := by decide +kernel
theorem dX1_letters_67 : decode cX1_letters 67 = .ok (.iload_n 3, 1) := by decide +kernel
theorem dX1_letters_68 : decode cX1_letters 68 = .ok (.aload_n 0, 1) := by decide +kernel
theorem dX1_letters_69 : decode cX1_letters 69 = .ok (.iload 4, 2) := by decide +kernel
theorem dX1_letters_71 : decode cX1_letters 71 = .ok (.iload 5, 2) := by decide +kernel
theorem dX1_letters_73 : decode cX1_letters 73 = .ok (.invokevirtual 60, 3) := by decide +kernel
theorem dX1_letters_76 : decode cX1_letters 76 = .ok (.iload_n 2, 1) := by decide +kernel
theorem dX1_letters_77 : decode cX1_letters 77 = .ok (.if_icmp .ne 7, 3) := by decide +kernel
theorem dX1_letters_80 : decode cX1_letters 80 = .ok (.iconst 1, 1) := by decide +kernel
theorem dX1_letters_81 : decode cX1_letters 81 = .ok (.goto 4, 3) := by decide +kernel
theorem dX1_letters_84 : decode cX1_letters 84 = .ok (.iconst 0, 1) := by decide +kernel
theorem dX1_letters_85 : decode cX1_letters 85 = .ok (.iadd, 1) := by decide +kernel
theorem dX1_letters_86 : decode cX1_letters 86 = .ok (.istore_n 3, 1) := by decide +kernel
theorem dX1_letters_87 : decode cX1_letters 87 = .ok (.iinc 5 1, 3) := by decide +kernel
theorem dX1_letters_90 : decode cX1_letters 90 = .ok (.goto (-45), 3) := by decide +kernel
theorem dX1_letters_93 : decode cX1_letters 93 = .ok (.iinc 4 1, 3) := by decide +kernel
theorem dX1_letters_96 : decode cX1_letters 96 = .ok (.goto (-63), 3) := by decide +kernel
theorem dX1_letters_99 : decode cX1_letters 99 = .ok (.iload_n 3, 1) := by decide +kernel
theorem dX1_letters_100 : decode cX1_letters 100 = .ok (.ireturn, 1) := by decide +kernel
theorem dX1_letter_0 : decode cX1_letter 0 = .ok (.aload_n 0, 1) := by decide +kernel
theorem dX1_letter_1 : decode cX1_letter 1 = .ok (.aload_n 0, 1) := by decide +kernel
theorem dX1_letter_2 : decode cX1_letter 2 = .ok (.iload_n 1, 1) := by decide +kernel
theorem dX1_letter_3 : decode cX1_letter 3 = .ok (.invokevirtual 94, 3) := by decide +kernel
theorem dX1_letter_6 : decode cX1_letter 6 = .ok (.ifCond .ne 7, 3) := by decide +kernel
theorem dX1_letter_9 : decode cX1_letter 9 = .ok (.iconst 1, 1) := by decide +kernel
theorem dX1_letter_10 : decode cX1_letter 10 = .ok (.goto 4, 3) := by decide +kernel
theorem dX1_letter_13 : decode cX1_letter 13 = .ok (.iconst 0, 1) := by decide +kernel
theorem dX1_letter_14 : decode cX1_letter 14 = .ok (.invokevirtual 52, 3) := by decide +kernel
theorem dX1_letter_17 : decode cX1_letter 17 = .ok (.ifCond .eq 5, 3) := by decide +kernel
theorem dX1_letter_20 : decode cX1_letter 20 = .ok (.iconst 0, 1) := by decide +kernel
theorem dX1_letter_21 : decode cX1_letter 21 = .ok (.ireturn, 1) := by decide +kernel
theorem dX1_letter_22 : decode cX1_letter 22 = .ok (.iload_n 2, 1) := by decide +kernel
theorem dX1_letter_23 : decode cX1_letter 23 = .ok (.ifCond .lt 13, 3) := by decide +kernel
theorem dX1_letter_26 : decode cX1_letter 26 = .ok (.iload_n 2, 1) := by decide +kernel
theorem dX1_letter_27 : decode cX1_letter 27 = .ok (.aload_n 0, 1) := by decide +kernel
theorem dX1_letter_28 : decode cX1_letter 28 = .ok (.getfield 19, 3) := by decide +kernel
theorem dX1_letter_31 : decode cX1_letter 31 = .ok (.iload_n 1, 1) := by decide +kernel
theorem dX1_letter_32 : decode cX1_letter 32 = .ok (.iaload, 1) := by decide +kernel
theorem dX1_letter_33 : decode cX1_letter 33 = .ok (.if_icmp .lt 7, 3) := by decide +kernel
theorem dX1_letter_36 : decode cX1_letter 36 = .ok (.iconst (-1), 1) := by decide +kernel
theorem dX1_letter_37 : decode cX1_letter 37 = .ok (.goto 9, 3) := by decide +kernel
theorem dX1_letter_40 : decode cX1_letter 40 = .ok (.aload_n 0, 1) := by decide +kernel
theorem dX1_letter_41 : decode cX1_letter 41 = .ok (.iload_n 1, 1) := by decide +kernel
theorem dX1_letter_42 : decode cX1_letter 42 = .ok (.iload_n 2, 1) := by decide +kernel
theorem dX1_letter_43 : decode cX1_letter 43 = .ok (.invokevirtual 60, 3) := by decide +kernel
theorem dX1_letter_46 : decode cX1_letter 46 = .ok (.ireturn, 1) := by decide +kernel
theorem dX1_tell_0 : decode cX1_tell 0 = .ok (.aload_n 0, 1) := by decide +kernel
theorem dX1_tell_1 : decode cX1_tell 1 = .ok (.aload_n 0, 1) := by decide +kernel
theorem dX1_tell_2 : decode cX1_tell 2 = .ok (.iload_n 1, 1) := by decide +kernel
theorem dX1_tell_3 : decode cX1_tell 3 = .ok (.invokevirtual 94, 3) := by decide +kernel
theorem dX1_tell_6 : decode cX1_tell 6 = .ok (.ifCond .ne 7, 3) := by decide +kernel
theorem dX1_tell_9 : decode cX1_tell 9 = .ok (.iconst 1, 1) := by decide +kernel
theorem dX1_tell_10 : decode cX1_tell 10 = .ok (.goto 4, 3) := by decide +kernel
theorem dX1_tell_13 : decode cX1_tell 13 = .ok (.iconst 0, 1) := by decide +kernel
theorem dX1_tell_14 : decode cX1_tell 14 = .ok (.invokevirtual 52, 3) := by decide +kernel
theorem dX1_tell_17 : decode cX1_tell 17 = .ok (.ifCond .eq 5, 3) := by decide +kernel
theorem dX1_tell_20 : decode cX1_tell 20 = .ok (.iconst 0, 1) := by decide +kernel
theorem dX1_tell_21 : decode cX1_tell 21 = .ok (.ireturn, 1) := by decide +kernel
theorem dX1_tell_22 : decode cX1_tell 22 = .ok (.iload_n 2, 1) := by decide +kernel
theorem dX1_tell_23 : decode cX1_tell 23 = .ok (.tableswitch 65 0 3 #[29, 36, 43, 58], 29) := by decide +kernel
theorem dX1_tell_52 : decode cX1_tell 52 = .ok (.aload_n 0, 1) := by decide +kernel
theorem dX1_tell_53 : decode cX1_tell 53 = .ok (.getfield 22, 3) := by decide +kernel
theorem dX1_tell_56 : decode cX1_tell 56 = .ok (.iload_n 1, 1) := by decide +kernel
theorem dX1_tell_57 : decode cX1_tell 57 = .ok (.iaload, 1) := by decide +kernel
theorem dX1_tell_58 : decode cX1_tell 58 = .ok (.ireturn, 1) := by decide +kernel
theorem dX1_tell_59 : decode cX1_tell 59 = .ok (.aload_n 0, 1) := by decide +kernel
theorem dX1_tell_60 : decode cX1_tell 60 = .ok (.getfield 25, 3) := by decide +kernel
theorem dX1_tell_63 : decode cX1_tell 63 = .ok (.iload_n 1, 1) := by decide +kernel
theorem dX1_tell_64 : decode cX1_tell 64 = .ok (.iaload, 1) := by decide +kernel
theorem dX1_tell_65 : decode cX1_tell 65 = .ok (.ireturn, 1) := by decide +kernel
theorem dX1_tell_66 : decode cX1_tell 66 = .ok (.aload_n 0, 1) := by decide +kernel
theorem dX1_tell_67 : decode cX1_tell 67 = .ok (.getfield 28, 3) := by decide +kernel
theorem dX1_tell_70 : decode cX1_tell 70 = .ok (.iload_n 1, 1) := by decide +kernel
theorem dX1_tell_71 : decode cX1_tell 71 = .ok (.baload, 1) := by decide +kernel
theorem dX1_tell_72 : decode cX1_tell 72 = .ok (.ifCond .eq 7, 3) := by decide +kernel
theorem dX1_tell_75 : decode cX1_tell 75 = .ok (.iconst 1, 1) := by decide +kernel
theorem dX1_tell_76 : decode cX1_tell 76 = .ok (.goto 4, 3) := by decide +kernel
theorem dX1_tell_79 : decode cX1_tell 79 = .ok (.iconst 0, 1) := by decide +kernel
theorem dX1_tell_80 : decode cX1_tell 80 = .ok (.ireturn, 1) := by decide +kernel
theorem dX1_tell_81 : decode cX1_tell 81 = .ok (.aload_n 0, 1) := by decide +kernel
theorem dX1_tell_82 : decode cX1_tell 82 = .ok (.getfield 19, 3) := by decide +kernel
theorem dX1_tell_85 : decode cX1_tell 85 = .ok (.iload_n 1, 1) := by decide +kernel
theorem dX1_tell_86 : decode cX1_tell 86 = .ok (.iaload, 1) := by decide +kernel
theorem dX1_tell_87 : decode cX1_tell 87 = .ok (.ireturn, 1) := by decide +kernel
theorem dX1_tell_88 : decode cX1_tell 88 = .ok (.iconst (-1), 1) := by decide +kernel
theorem dX1_tell_89 : decode cX1_tell 89 = .ok (.ireturn, 1) := by decide +kernel
theorem dX1_common_0 : decode cX1_common 0 = .ok (.aload_n 0, 1) := by decide +kernel
theorem dX1_common_1 : decode cX1_common 1 = .ok (.iload_n 1, 1) := by decide +kernel
theorem dX1_common_2 : decode cX1_common 2 = .ok (.invokestatic 68, 3) := by decide +kernel
theorem dX1_common_5 : decode cX1_common 5 = .ok (.ifCond .ne 7, 3) := by decide +kernel
theorem dX1_common_8 : decode cX1_common 8 = .ok (.iconst 1, 1) := by decide +kernel
theorem dX1_common_9 : decode cX1_common 9 = .ok (.goto 4, 3) := by decide +kernel
theorem dX1_common_12 : decode cX1_common 12 = .ok (.iconst 0, 1) := by decide +kernel
theorem dX1_common_13 : decode cX1_common 13 = .ok (.invokevirtual 52, 3) := by decide +kernel
theorem dX1_common_16 : decode cX1_common 16 = .ok (.ifCond .eq 5, 3) := by decide +kernel
theorem dX1_common_19 : decode cX1_common 19 = .ok (.iconst 0, 1) := by decide +kernel
theorem dX1_common_20 : decode cX1_common 20 = .ok (.ireturn, 1) := by decide +kernel
theorem dX1_common_21 : decode cX1_common 21 = .ok (.iconst (-1), 1) := by decide +kernel
theorem dX1_common_22 : decode cX1_common 22 = .ok (.istore_n 2, 1) := by decide +kernel
theorem dX1_common_23 : decode cX1_common 23 = .ok (.iconst 0, 1) := by decide +kernel
theorem dX1_common_24 : decode cX1_common 24 = .ok (.istore_n 3, 1) := by decide +kernel
theorem dX1_common_25 : decode cX1_common 25 = .ok (.iconst 0, 1) := by decide +kernel
theorem dX1_common_26 : decode cX1_common 26 = .ok (.istore 4, 2) := by decide +kernel
theorem dX1_common_28 : decode cX1_common 28 = .ok (.iload 4, 2) := by decide +kernel
theorem dX1_common_30 : decode cX1_common 30 = .ok (.aload_n 0, 1) := by decide +kernel
theorem dX1_common_31 : decode cX1_common 31 = .ok (.getfield 42, 3) := by decide +kernel
theorem dX1_common_34 : decode cX1_common 34 = .ok (.if_icmp .ge 95, 3) := by decide +kernel
theorem dX1_common_37 : decode cX1_common 37 = .ok (.aload_n 0, 1) := by decide +kernel
theorem dX1_common_38 : decode cX1_common 38 = .ok (.iload 4, 2) := by decide +kernel
theorem dX1_common_40 : decode cX1_common 40 = .ok (.iload_n 1, 1) := by decide +kernel
theorem dX1_common_41 : decode cX1_common 41 = .ok (.invokevirtual 78, 3) := by decide +kernel
theorem dX1_common_44 : decode cX1_common 44 = .ok (.ifCond .eq 79, 3) := by decide +kernel
theorem dX1_common_47 : decode cX1_common 47 = .ok (.aload_n 0, 1) := by decide +kernel
theorem dX1_common_48 : decode cX1_common 48 = .ok (.getfield 28, 3) := by decide +kernel
theorem dX1_common_51 : decode cX1_common 51 = .ok (.iload 4, 2) := by decide +kernel
theorem dX1_common_53 : decode cX1_common 53 = .ok (.baload, 1) := by decide +kernel
theorem dX1_common_54 : decode cX1_common 54 = .ok (.ifCond .eq 6, 3) := by decide +kernel
theorem dX1_common_57 : decode cX1_common 57 = .ok (.goto 66, 3) := by decide +kernel
theorem dX1_common_60 : decode cX1_common 60 = .ok (.iload_n 2, 1) := by decide +kernel
theorem dX1_common_61 : decode cX1_common 61 = .ok (.ifCond .ge 14, 3) := by decide +kernel
theorem dX1_common_64 : decode cX1_common 64 = .ok (.iload 4, 2) := by decide +kernel
theorem dX1_common_66 : decode cX1_common 66 = .ok (.istore_n 2, 1) := by decide +kernel
theorem dX1_common_67 : decode cX1_common 67 = .ok (.aload_n 0, 1) := by decide +kernel
theorem dX1_common_68 : decode cX1_common 68 = .ok (.getfield 19, 3) := by decide +kernel
theorem dX1_common_71 : decode cX1_common 71 = .ok (.iload 4, 2) := by decide +kernel
theorem dX1_common_73 : decode cX1_common 73 = .ok (.iaload, 1) := by decide +kernel
theorem dX1_common_74 : decode cX1_common 74 = .ok (.istore_n 3, 1) := by decide +kernel
theorem dX1_common_75 : decode cX1_common 75 = .ok (.iconst 0, 1) := by decide +kernel
theorem dX1_common_76 : decode cX1_common 76 = .ok (.istore 5, 2) := by decide +kernel
theorem dX1_common_78 : decode cX1_common 78 = .ok (.iload 5, 2) := by decide +kernel
theorem dX1_common_80 : decode cX1_common 80 = .ok (.iload_n 3, 1) := by decide +kernel
theorem dX1_common_81 : decode cX1_common 81 = .ok (.if_icmp .ge 39, 3) := by decide +kernel
theorem dX1_common_84 : decode cX1_common 84 = .ok (.iload 5, 2) := by decide +kernel
theorem dX1_common_86 : decode cX1_common 86 = .ok (.aload_n 0, 1) := by decide +kernel
theorem dX1_common_87 : decode cX1_common 87 = .ok (.getfield 19, 3) := by decide +kernel
theorem dX1_common_90 : decode cX1_common 90 = .ok (.iload 4, 2) := by decide +kernel
theorem dX1_common_92 : decode cX1_common 92 = .ok (.iaload, 1) := by decide +kernel
theorem dX1_common_93 : decode cX1_common 93 = .ok (.if_icmp .ge 27, 3) := by decide +kernel
theorem dX1_common_96 : decode cX1_common 96 = .ok (.aload_n 0, 1) := by decide +kernel
theorem dX1_common_97 : decode cX1_common 97 = .ok (.iload 4, 2) := by decide +kernel
theorem dX1_common_99 : decode cX1_common 99 = .ok (.iload 5, 2) := by decide +kernel
theorem dX1_common_101 : decode cX1_common 101 = .ok (.invokevirtual 60, 3) := by decide +kernel
theorem dX1_common_104 : decode cX1_common 104 = .ok (.aload_n 0, 1) := by decide +kernel
theorem dX1_common_105 : decode cX1_common 105 = .ok (.iload_n 2, 1) := by decide +kernel
theorem dX1_common_106 : decode cX1_common 106 = .ok (.iload 5, 2) := by decide +kernel
theorem dX1_common_108 : decode cX1_common 108 = .ok (.invokevirtual 60, 3) := by decide +kernel
theorem dX1_common_111 : decode cX1_common 111 = .ok (.if_icmp .ne 9, 3) := by decide +kernel
theorem dX1_common_114 : decode cX1_common 114 = .ok (.iinc 5 1, 3) := by decide +kernel
theorem dX1_common_117 : decode cX1_common 117 = .ok (.goto (-39), 3) := by decide +kernel
theorem dX1_common_120 : decode cX1_common 120 = .ok (.iload 5, 2) := by decide +kernel
theorem dX1_common_122 : decode cX1_common 122 = .ok (.istore_n 3, 1) := by decide +kernel
theorem dX1_common_123 : decode cX1_common 123 = .ok (.iinc 4 1, 3) := by decide +kernel
theorem dX1_common_126 : decode cX1_common 126 = .ok (.goto (-98), 3) := by decide +kernel
theorem dX1_common_129 : decode cX1_common 129 = .ok (.iload_n 3, 1) := by decide +kernel
theorem dX1_common_130 : decode cX1_common 130 = .ok (.ireturn, 1) := by decide +kernel
end
section
theorem dL_fold_0 : decode cL_fold 0 = .ok (.aload_n 0, 1) := by decide +kernel
theorem dL_fold_1 : decode cL_fold 1 = .ok (.iload_n 1, 1) := by decide +kernel
theorem dL_fold_2 : decode cL_fold 2 = .ok (.iload_n 2, 1) := by decide +kernel
theorem dL_fold_3 : decode cL_fold 3 = .ok (.invokevirtual 7, 3) := by decide +kernel
theorem dL_fold_6 : decode cL_fold 6 = .ok (.goto 6, 3) := by decide +kernel
theorem dL_fold_9 : decode cL_fold 9 = .ok (.astore_n 3, 1) := by decide +kernel
theorem dL_fold_10 : decode cL_fold 10 = .ok (.iconst 1, 1) := by decide +kernel
theorem dL_fold_11 : decode cL_fold 11 = .ok (.ireturn, 1) := by decide +kernel
theorem dL_fold_12 : decode cL_fold 12 = .ok (.iconst 0, 1) := by decide +kernel
theorem dL_fold_13 : decode cL_fold 13 = .ok (.ireturn, 1) := by decide +kernel
theorem dL_enter_0 : decode cL_enter 0 = .ok (.aload_n 3, 1) := by decide +kernel
theorem dL_enter_1 : decode cL_enter 1 = .ok (.iconst 0, 1) := by decide +kernel
theorem dL_enter_2 : decode cL_enter 2 = .ok (.aload_n 0, 1) := by decide +kernel
theorem dL_enter_3 : decode cL_enter 3 = .ok (.iload_n 1, 1) := by decide +kernel
theorem dL_enter_4 : decode cL_enter 4 = .ok (.iload_n 2, 1) := by decide +kernel
theorem dL_enter_5 : decode cL_enter 5 = .ok (.invokevirtual 15, 3) := by decide +kernel
theorem dL_enter_8 : decode cL_enter 8 = .ok (.i2l, 1) := by decide +kernel
theorem dL_enter_9 : decode cL_enter 9 = .ok (.lastore, 1) := by decide +kernel
theorem dL_enter_10 : decode cL_enter 10 = .ok (.goto 7, 3) := by decide +kernel
theorem dL_enter_13 : decode cL_enter 13 = .ok (.astore 4, 2) := by decide +kernel
theorem dL_enter_15 : decode cL_enter 15 = .ok (.iconst 1, 1) := by decide +kernel
theorem dL_enter_16 : decode cL_enter 16 = .ok (.ireturn, 1) := by decide +kernel
theorem dL_enter_17 : decode cL_enter 17 = .ok (.iconst 0, 1) := by decide +kernel
theorem dL_enter_18 : decode cL_enter 18 = .ok (.ireturn, 1) := by decide +kernel
theorem dL_merge_0 : decode cL_merge 0 = .ok (.aload 5, 2) := by decide +kernel
theorem dL_merge_2 : decode cL_merge 2 = .ok (.iconst 0, 1) := by decide +kernel
theorem dL_merge_3 : decode cL_merge 3 = .ok (.aload_n 0, 1) := by decide +kernel
theorem dL_merge_4 : decode cL_merge 4 = .ok (.iload_n 1, 1) := by decide +kernel
theorem dL_merge_5 : decode cL_merge 5 = .ok (.iload_n 2, 1) := by decide +kernel
theorem dL_merge_6 : decode cL_merge 6 = .ok (.iload_n 3, 1) := by decide +kernel
theorem dL_merge_7 : decode cL_merge 7 = .ok (.iload 4, 2) := by decide +kernel
theorem dL_merge_9 : decode cL_merge 9 = .ok (.invokevirtual 19, 3) := by decide +kernel
theorem dL_merge_12 : decode cL_merge 12 = .ok (.i2l, 1) := by decide +kernel
theorem dL_merge_13 : decode cL_merge 13 = .ok (.lastore, 1) := by decide +kernel
theorem dL_merge_14 : decode cL_merge 14 = .ok (.goto 7, 3) := by decide +kernel
theorem dL_merge_17 : decode cL_merge 17 = .ok (.astore 6, 2) := by decide +kernel
theorem dL_merge_19 : decode cL_merge 19 = .ok (.iconst 1, 1) := by decide +kernel
theorem dL_merge_20 : decode cL_merge 20 = .ok (.ireturn, 1) := by decide +kernel
theorem dL_merge_21 : decode cL_merge 21 = .ok (.iconst 0, 1) := by decide +kernel
theorem dL_merge_22 : decode cL_merge 22 = .ok (.ireturn, 1) := by decide +kernel
theorem dL_seek_0 : decode cL_seek 0 = .ok (.aload_n 2, 1) := by decide +kernel
theorem dL_seek_1 : decode cL_seek 1 = .ok (.iconst 0, 1) := by decide +kernel
theorem dL_seek_2 : decode cL_seek 2 = .ok (.aload_n 0, 1) := by decide +kernel
theorem dL_seek_3 : decode cL_seek 3 = .ok (.iload_n 1, 1) := by decide +kernel
theorem dL_seek_4 : decode cL_seek 4 = .ok (.invokevirtual 23, 3) := by decide +kernel
theorem dL_seek_7 : decode cL_seek 7 = .ok (.i2l, 1) := by decide +kernel
theorem dL_seek_8 : decode cL_seek 8 = .ok (.lastore, 1) := by decide +kernel
theorem dL_seek_9 : decode cL_seek 9 = .ok (.goto 6, 3) := by decide +kernel
theorem dL_seek_12 : decode cL_seek 12 = .ok (.astore_n 3, 1) := by decide +kernel
theorem dL_seek_13 : decode cL_seek 13 = .ok (.iconst 1, 1) := by decide +kernel
theorem dL_seek_14 : decode cL_seek 14 = .ok (.ireturn, 1) := by decide +kernel
theorem dL_seek_15 : decode cL_seek 15 = .ok (.iconst 0, 1) := by decide +kernel
theorem dL_seek_16 : decode cL_seek 16 = .ok (.ireturn, 1) := by decide +kernel
theorem dL_candidate_0 : decode cL_candidate 0 = .ok (.aload_n 2, 1) := by decide +kernel
theorem dL_candidate_1 : decode cL_candidate 1 = .ok (.iconst 0, 1) := by decide +kernel
theorem dL_candidate_2 : decode cL_candidate 2 = .ok (.aload_n 0, 1) := by decide +kernel
theorem dL_candidate_3 : decode cL_candidate 3 = .ok (.iload_n 1, 1) := by decide +kernel
theorem dL_candidate_4 : decode cL_candidate 4 = .ok (.invokevirtual 27, 3) := by decide +kernel
theorem dL_candidate_7 : decode cL_candidate 7 = .ok (.i2l, 1) := by decide +kernel
theorem dL_candidate_8 : decode cL_candidate 8 = .ok (.lastore, 1) := by decide +kernel
theorem dL_candidate_9 : decode cL_candidate 9 = .ok (.goto 6, 3) := by decide +kernel
theorem dL_candidate_12 : decode cL_candidate 12 = .ok (.astore_n 3, 1) := by decide +kernel
theorem dL_candidate_13 : decode cL_candidate 13 = .ok (.iconst 1, 1) := by decide +kernel
theorem dL_candidate_14 : decode cL_candidate 14 = .ok (.ireturn, 1) := by decide +kernel
theorem dL_candidate_15 : decode cL_candidate 15 = .ok (.iconst 0, 1) := by decide +kernel
theorem dL_candidate_16 : decode cL_candidate 16 = .ok (.ireturn, 1) := by decide +kernel
theorem dL_at_0 : decode cL_at 0 = .ok (.aload_n 3, 1) := by decide +kernel
theorem dL_at_1 : decode cL_at 1 = .ok (.iconst 0, 1) := by decide +kernel
theorem dL_at_2 : decode cL_at 2 = .ok (.aload_n 0, 1) := by decide +kernel
theorem dL_at_3 : decode cL_at 3 = .ok (.iload_n 1, 1) := by decide +kernel
theorem dL_at_4 : decode cL_at 4 = .ok (.iload_n 2, 1) := by decide +kernel
theorem dL_at_5 : decode cL_at 5 = .ok (.invokevirtual 30, 3) := by decide +kernel
theorem dL_at_8 : decode cL_at 8 = .ok (.i2l, 1) := by decide +kernel
theorem dL_at_9 : decode cL_at 9 = .ok (.lastore, 1) := by decide +kernel
theorem dL_at_10 : decode cL_at 10 = .ok (.goto 7, 3) := by decide +kernel
theorem dL_at_13 : decode cL_at 13 = .ok (.astore 4, 2) := by decide +kernel
theorem dL_at_15 : decode cL_at 15 = .ok (.iconst 1, 1) := by decide +kernel
theorem dL_at_16 : decode cL_at 16 = .ok (.ireturn, 1) := by decide +kernel
theorem dL_at_17 : decode cL_at 17 = .ok (.iconst 0, 1) := by decide +kernel
theorem dL_at_18 : decode cL_at 18 = .ok (.ireturn, 1) := by decide +kernel
theorem dL_begins_0 : decode cL_begins 0 = .ok (.aload_n 2, 1) := by decide +kernel
theorem dL_begins_1 : decode cL_begins 1 = .ok (.iconst 0, 1) := by decide +kernel
theorem dL_begins_2 : decode cL_begins 2 = .ok (.aload_n 0, 1) := by decide +kernel
theorem dL_begins_3 : decode cL_begins 3 = .ok (.iload_n 1, 1) := by decide +kernel
theorem dL_begins_4 : decode cL_begins 4 = .ok (.invokevirtual 33, 3) := by decide +kernel
theorem dL_begins_7 : decode cL_begins 7 = .ok (.i2l, 1) := by decide +kernel
theorem dL_begins_8 : decode cL_begins 8 = .ok (.lastore, 1) := by decide +kernel
theorem dL_begins_9 : decode cL_begins 9 = .ok (.goto 6, 3) := by decide +kernel
theorem dL_begins_12 : decode cL_begins 12 = .ok (.astore_n 3, 1) := by decide +kernel
theorem dL_begins_13 : decode cL_begins 13 = .ok (.iconst 1, 1) := by decide +kernel
theorem dL_begins_14 : decode cL_begins 14 = .ok (.ireturn, 1) := by decide +kernel
theorem dL_begins_15 : decode cL_begins 15 = .ok (.iconst 0, 1) := by decide +kernel
theorem dL_begins_16 : decode cL_begins 16 = .ok (.ireturn, 1) := by decide +kernel
theorem dL_ends_0 : decode cL_ends 0 = .ok (.aload_n 2, 1) := by decide +kernel
theorem dL_ends_1 : decode cL_ends 1 = .ok (.iconst 0, 1) := by decide +kernel
theorem dL_ends_2 : decode cL_ends 2 = .ok (.aload_n 0, 1) := by decide +kernel
theorem dL_ends_3 : decode cL_ends 3 = .ok (.iload_n 1, 1) := by decide +kernel
theorem dL_ends_4 : decode cL_ends 4 = .ok (.invokevirtual 36, 3) := by decide +kernel
theorem dL_ends_7 : decode cL_ends 7 = .ok (.i2l, 1) := by decide +kernel
theorem dL_ends_8 : decode cL_ends 8 = .ok (.lastore, 1) := by decide +kernel
theorem dL_ends_9 : decode cL_ends 9 = .ok (.goto 6, 3) := by decide +kernel
theorem dL_ends_12 : decode cL_ends 12 = .ok (.astore_n 3, 1) := by decide +kernel
theorem dL_ends_13 : decode cL_ends 13 = .ok (.iconst 1, 1) := by decide +kernel
theorem dL_ends_14 : decode cL_ends 14 = .ok (.ireturn, 1) := by decide +kernel
theorem dL_ends_15 : decode cL_ends 15 = .ok (.iconst 0, 1) := by decide +kernel
theorem dL_ends_16 : decode cL_ends 16 = .ok (.ireturn, 1) := by decide +kernel
theorem dL_mixed_0 : decode cL_mixed 0 = .ok (.aload_n 2, 1) := by decide +kernel
theorem dL_mixed_1 : decode cL_mixed 1 = .ok (.iconst 0, 1) := by decide +kernel
theorem dL_mixed_2 : decode cL_mixed 2 = .ok (.aload_n 0, 1) := by decide +kernel
theorem dL_mixed_3 : decode cL_mixed 3 = .ok (.iload_n 1, 1) := by decide +kernel
theorem dL_mixed_4 : decode cL_mixed 4 = .ok (.invokevirtual 39, 3) := by decide +kernel
theorem dL_mixed_7 : decode cL_mixed 7 = .ok (.i2l, 1) := by decide +kernel
theorem dL_mixed_8 : decode cL_mixed 8 = .ok (.lastore, 1) := by decide +kernel
theorem dL_mixed_9 : decode cL_mixed 9 = .ok (.goto 6, 3) := by decide +kernel
theorem dL_mixed_12 : decode cL_mixed 12 = .ok (.astore_n 3, 1) := by decide +kernel
theorem dL_mixed_13 : decode cL_mixed 13 = .ok (.iconst 1, 1) := by decide +kernel
theorem dL_mixed_14 : decode cL_mixed 14 = .ok (.ireturn, 1) := by decide +kernel
theorem dL_mixed_15 : decode cL_mixed 15 = .ok (.iconst 0, 1) := by decide +kernel
theorem dL_mixed_16 : decode cL_mixed 16 = .ok (.ireturn, 1) := by decide +kernel
theorem dL_many_0 : decode cL_many 0 = .ok (.aload_n 3, 1) := by decide +kernel
theorem dL_many_1 : decode cL_many 1 = .ok (.iconst 0, 1) := by decide +kernel
theorem dL_many_2 : decode cL_many 2 = .ok (.aload_n 0, 1) := by decide +kernel
theorem dL_many_3 : decode cL_many 3 = .ok (.iload_n 1, 1) := by decide +kernel
theorem dL_many_4 : decode cL_many 4 = .ok (.iload_n 2, 1) := by decide +kernel
theorem dL_many_5 : decode cL_many 5 = .ok (.invokevirtual 42, 3) := by decide +kernel
theorem dL_many_8 : decode cL_many 8 = .ok (.i2l, 1) := by decide +kernel
theorem dL_many_9 : decode cL_many 9 = .ok (.lastore, 1) := by decide +kernel
theorem dL_many_10 : decode cL_many 10 = .ok (.goto 7, 3) := by decide +kernel
theorem dL_many_13 : decode cL_many 13 = .ok (.astore 4, 2) := by decide +kernel
theorem dL_many_15 : decode cL_many 15 = .ok (.iconst 1, 1) := by decide +kernel
theorem dL_many_16 : decode cL_many 16 = .ok (.ireturn, 1) := by decide +kernel
theorem dL_many_17 : decode cL_many 17 = .ok (.iconst 0, 1) := by decide +kernel
theorem dL_many_18 : decode cL_many 18 = .ok (.ireturn, 1) := by decide +kernel
theorem dL_letters_0 : decode cL_letters 0 = .ok (.aload_n 3, 1) := by decide +kernel
theorem dL_letters_1 : decode cL_letters 1 = .ok (.iconst 0, 1) := by decide +kernel
theorem dL_letters_2 : decode cL_letters 2 = .ok (.aload_n 0, 1) := by decide +kernel
theorem dL_letters_3 : decode cL_letters 3 = .ok (.iload_n 1, 1) := by decide +kernel
theorem dL_letters_4 : decode cL_letters 4 = .ok (.iload_n 2, 1) := by decide +kernel
theorem dL_letters_5 : decode cL_letters 5 = .ok (.invokevirtual 45, 3) := by decide +kernel
theorem dL_letters_8 : decode cL_letters 8 = .ok (.i2l, 1) := by decide +kernel
theorem dL_letters_9 : decode cL_letters 9 = .ok (.lastore, 1) := by decide +kernel
theorem dL_letters_10 : decode cL_letters 10 = .ok (.goto 7, 3) := by decide +kernel
theorem dL_letters_13 : decode cL_letters 13 = .ok (.astore 4, 2) := by decide +kernel
theorem dL_letters_15 : decode cL_letters 15 = .ok (.iconst 1, 1) := by decide +kernel
theorem dL_letters_16 : decode cL_letters 16 = .ok (.ireturn, 1) := by decide +kernel
theorem dL_letters_17 : decode cL_letters 17 = .ok (.iconst 0, 1) := by decide +kernel
theorem dL_letters_18 : decode cL_letters 18 = .ok (.ireturn, 1) := by decide +kernel
theorem dL_letter_0 : decode cL_letter 0 = .ok (.aload_n 3, 1) := by decide +kernel
theorem dL_letter_1 : decode cL_letter 1 = .ok (.iconst 0, 1) := by decide +kernel
theorem dL_letter_2 : decode cL_letter 2 = .ok (.aload_n 0, 1) := by decide +kernel
theorem dL_letter_3 : decode cL_letter 3 = .ok (.iload_n 1, 1) := by decide +kernel
theorem dL_letter_4 : decode cL_letter 4 = .ok (.iload_n 2, 1) := by decide +kernel
theorem dL_letter_5 : decode cL_letter 5 = .ok (.invokevirtual 48, 3) := by decide +kernel
theorem dL_letter_8 : decode cL_letter 8 = .ok (.i2l, 1) := by decide +kernel
theorem dL_letter_9 : decode cL_letter 9 = .ok (.lastore, 1) := by decide +kernel
theorem dL_letter_10 : decode cL_letter 10 = .ok (.goto 7, 3) := by decide +kernel
theorem dL_letter_13 : decode cL_letter 13 = .ok (.astore 4, 2) := by decide +kernel
theorem dL_letter_15 : decode cL_letter 15 = .ok (.iconst 1, 1) := by decide +kernel
theorem dL_letter_16 : decode cL_letter 16 = .ok (.ireturn, 1) := by decide +kernel
theorem dL_letter_17 : decode cL_letter 17 = .ok (.iconst 0, 1) := by decide +kernel
theorem dL_letter_18 : decode cL_letter 18 = .ok (.ireturn, 1) := by decide +kernel
theorem dL_tell_0 : decode cL_tell 0 = .ok (.aload_n 3, 1) := by decide +kernel
theorem dL_tell_1 : decode cL_tell 1 = .ok (.iconst 0, 1) := by decide +kernel
theorem dL_tell_2 : decode cL_tell 2 = .ok (.aload_n 0, 1) := by decide +kernel
theorem dL_tell_3 : decode cL_tell 3 = .ok (.iload_n 1, 1) := by decide +kernel
theorem dL_tell_4 : decode cL_tell 4 = .ok (.iload_n 2, 1) := by decide +kernel
theorem dL_tell_5 : decode cL_tell 5 = .ok (.invokevirtual 51, 3) := by decide +kernel
theorem dL_tell_8 : decode cL_tell 8 = .ok (.i2l, 1) := by decide +kernel
theorem dL_tell_9 : decode cL_tell 9 = .ok (.lastore, 1) := by decide +kernel
theorem dL_tell_10 : decode cL_tell 10 = .ok (.goto 7, 3) := by decide +kernel
theorem dL_tell_13 : decode cL_tell 13 = .ok (.astore 4, 2) := by decide +kernel
theorem dL_tell_15 : decode cL_tell 15 = .ok (.iconst 1, 1) := by decide +kernel
theorem dL_tell_16 : decode cL_tell 16 = .ok (.ireturn, 1) := by decide +kernel
theorem dL_tell_17 : decode cL_tell 17 = .ok (.iconst 0, 1) := by decide +kernel
theorem dL_tell_18 : decode cL_tell 18 = .ok (.ireturn, 1) := by decide +kernel
theorem dL_common_0 : decode cL_common 0 = .ok (.aload_n 2, 1) := by decide +kernel
theorem dL_common_1 : decode cL_common 1 = .ok (.iconst 0, 1) := by decide +kernel
theorem dL_common_2 : decode cL_common 2 = .ok (.aload_n 0, 1) := by decide +kernel
theorem dL_common_3 : decode cL_common 3 = .ok (.iload_n 1, 1) := by decide +kernel
theorem dL_common_4 : decode cL_common 4 = .ok (.invokevirtual 54, 3) := by decide +kernel
theorem dL_common_7 : decode cL_common 7 = .ok (.i2l, 1) := by decide +kernel
theorem dL_common_8 : decode cL_common 8 = .ok (.lastore, 1) := by decide +kernel
theorem dL_common_9 : decode cL_common 9 = .ok (.goto 6, 3) := by decide +kernel
theorem dL_common_12 : decode cL_common 12 = .ok (.astore_n 3, 1) := by decide +kernel
theorem dL_common_13 : decode cL_common 13 = .ok (.iconst 1, 1) := by decide +kernel
theorem dL_common_14 : decode cL_common 14 = .ok (.ireturn, 1) := by decide +kernel
theorem dL_common_15 : decode cL_common 15 = .ok (.iconst 0, 1) := by decide +kernel
theorem dL_common_16 : decode cL_common 16 = .ok (.ireturn, 1) := by decide +kernel
theorem dL_law_0 : decode cL_law 0 = .ok (.new 8, 3) := by decide +kernel
theorem dL_law_3 : decode cL_law 3 = .ok (.dup, 1) := by decide +kernel
theorem dL_law_4 : decode cL_law 4 = .ok (.invokespecial 57, 3) := by decide +kernel
theorem dL_law_7 : decode cL_law 7 = .ok (.astore_n 1, 1) := by decide +kernel
theorem dL_law_8 : decode cL_law 8 = .ok (.new 58, 3) := by decide +kernel
theorem dL_law_11 : decode cL_law 11 = .ok (.dup, 1) := by decide +kernel
theorem dL_law_12 : decode cL_law 12 = .ok (.invokespecial 60, 3) := by decide +kernel
theorem dL_law_15 : decode cL_law 15 = .ok (.astore_n 2, 1) := by decide +kernel
theorem dL_law_16 : decode cL_law 16 = .ok (.iconst 1, 1) := by decide +kernel
theorem dL_law_17 : decode cL_law 17 = .ok (.newarray .long, 2) := by decide +kernel
theorem dL_law_19 : decode cL_law 19 = .ok (.astore_n 3, 1) := by decide +kernel
theorem dL_law_20 : decode cL_law 20 = .ok (.iconst 0, 1) := by decide +kernel
theorem dL_law_21 : decode cL_law 21 = .ok (.istore 4, 2) := by decide +kernel
theorem dL_law_23 : decode cL_law 23 = .ok (.iload 4, 2) := by decide +kernel
theorem dL_law_25 : decode cL_law 25 = .ok (.aload_n 0, 1) := by decide +kernel
theorem dL_law_26 : decode cL_law 26 = .ok (.arraylength, 1) := by decide +kernel
theorem dL_law_27 : decode cL_law 27 = .ok (.iconst 5, 1) := by decide +kernel
theorem dL_law_28 : decode cL_law 28 = .ok (.isub, 1) := by decide +kernel
theorem dL_law_29 : decode cL_law 29 = .ok (.if_icmp .gt 1058, 3) := by decide +kernel
theorem dL_law_32 : decode cL_law 32 = .ok (.aload_n 0, 1) := by decide +kernel
theorem dL_law_33 : decode cL_law 33 = .ok (.iload 4, 2) := by decide +kernel
theorem dL_law_35 : decode cL_law 35 = .ok (.iaload, 1) := by decide +kernel
theorem dL_law_36 : decode cL_law 36 = .ok (.bipush 31, 2) := by decide +kernel
theorem dL_law_38 : decode cL_law 38 = .ok (.iand, 1) := by decide +kernel
theorem dL_law_39 : decode cL_law 39 = .ok (.tableswitch 1042 0 16 #[81, 106, 117, 165, 233, 274, 366, 422, 478, 546, 602, 658, 714, 782, 850, 918, 986], 81) := by decide +kernel
theorem dL_law_120 : decode cL_law 120 = .ok (.aload_n 1, 1) := by decide +kernel
theorem dL_law_121 : decode cL_law 121 = .ok (.aload_n 0, 1) := by decide +kernel
theorem dL_law_122 : decode cL_law 122 = .ok (.iload 4, 2) := by decide +kernel
theorem dL_law_124 : decode cL_law 124 = .ok (.iconst 1, 1) := by decide +kernel
theorem dL_law_125 : decode cL_law 125 = .ok (.iadd, 1) := by decide +kernel
theorem dL_law_126 : decode cL_law 126 = .ok (.iaload, 1) := by decide +kernel
theorem dL_law_127 : decode cL_law 127 = .ok (.invokevirtual 61, 3) := by decide +kernel
theorem dL_law_130 : decode cL_law 130 = .ok (.aload_n 2, 1) := by decide +kernel
theorem dL_law_131 : decode cL_law 131 = .ok (.aload_n 0, 1) := by decide +kernel
theorem dL_law_132 : decode cL_law 132 = .ok (.iload 4, 2) := by decide +kernel
theorem dL_law_134 : decode cL_law 134 = .ok (.iconst 1, 1) := by decide +kernel
theorem dL_law_135 : decode cL_law 135 = .ok (.iadd, 1) := by decide +kernel
theorem dL_law_136 : decode cL_law 136 = .ok (.iaload, 1) := by decide +kernel
theorem dL_law_137 : decode cL_law 137 = .ok (.invokevirtual 65, 3) := by decide +kernel
theorem dL_law_140 : decode cL_law 140 = .ok (.if_icmp .eq 941, 3) := by decide +kernel
theorem dL_law_143 : decode cL_law 143 = .ok (.iconst 0, 1) := by decide +kernel
theorem dL_law_144 : decode cL_law 144 = .ok (.ireturn, 1) := by decide +kernel
theorem dL_law_145 : decode cL_law 145 = .ok (.aload_n 1, 1) := by decide +kernel
theorem dL_law_146 : decode cL_law 146 = .ok (.invokevirtual 66, 3) := by decide +kernel
theorem dL_law_149 : decode cL_law 149 = .ok (.aload_n 2, 1) := by decide +kernel
theorem dL_law_150 : decode cL_law 150 = .ok (.invokevirtual 69, 3) := by decide +kernel
theorem dL_law_153 : decode cL_law 153 = .ok (.goto 928, 3) := by decide +kernel
theorem dL_law_156 : decode cL_law 156 = .ok (.aload_n 1, 1) := by decide +kernel
theorem dL_law_157 : decode cL_law 157 = .ok (.aload_n 0, 1) := by decide +kernel
theorem dL_law_158 : decode cL_law 158 = .ok (.iload 4, 2) := by decide +kernel
theorem dL_law_160 : decode cL_law 160 = .ok (.iconst 1, 1) := by decide +kernel
theorem dL_law_161 : decode cL_law 161 = .ok (.iadd, 1) := by decide +kernel
theorem dL_law_162 : decode cL_law 162 = .ok (.iaload, 1) := by decide +kernel
theorem dL_law_163 : decode cL_law 163 = .ok (.aload_n 0, 1) := by decide +kernel
theorem dL_law_164 : decode cL_law 164 = .ok (.iload 4, 2) := by decide +kernel
theorem dL_law_166 : decode cL_law 166 = .ok (.iconst 2, 1) := by decide +kernel
theorem dL_law_167 : decode cL_law 167 = .ok (.iadd, 1) := by decide +kernel
theorem dL_law_168 : decode cL_law 168 = .ok (.iaload, 1) := by decide +kernel
theorem dL_law_169 : decode cL_law 169 = .ok (.invokestatic 70, 3) := by decide +kernel
theorem dL_law_172 : decode cL_law 172 = .ok (.istore 5, 2) := by decide +kernel
theorem dL_law_174 : decode cL_law 174 = .ok (.aload_n 2, 1) := by decide +kernel
theorem dL_law_175 : decode cL_law 175 = .ok (.aload_n 0, 1) := by decide +kernel
theorem dL_law_176 : decode cL_law 176 = .ok (.iload 4, 2) := by decide +kernel
theorem dL_law_178 : decode cL_law 178 = .ok (.iconst 1, 1) := by decide +kernel
theorem dL_law_179 : decode cL_law 179 = .ok (.iadd, 1) := by decide +kernel
theorem dL_law_180 : decode cL_law 180 = .ok (.iaload, 1) := by decide +kernel
theorem dL_law_181 : decode cL_law 181 = .ok (.aload_n 0, 1) := by decide +kernel
theorem dL_law_182 : decode cL_law 182 = .ok (.iload 4, 2) := by decide +kernel
theorem dL_law_184 : decode cL_law 184 = .ok (.iconst 2, 1) := by decide +kernel
theorem dL_law_185 : decode cL_law 185 = .ok (.iadd, 1) := by decide +kernel
theorem dL_law_186 : decode cL_law 186 = .ok (.iaload, 1) := by decide +kernel
theorem dL_law_187 : decode cL_law 187 = .ok (.invokevirtual 75, 3) := by decide +kernel
theorem dL_law_190 : decode cL_law 190 = .ok (.aload_n 2, 1) := by decide +kernel
theorem dL_law_191 : decode cL_law 191 = .ok (.invokevirtual 76, 3) := by decide +kernel
theorem dL_law_194 : decode cL_law 194 = .ok (.iload 5, 2) := by decide +kernel
theorem dL_law_196 : decode cL_law 196 = .ok (.if_icmp .eq 5, 3) := by decide +kernel
theorem dL_law_199 : decode cL_law 199 = .ok (.iconst 0, 1) := by decide +kernel
theorem dL_law_200 : decode cL_law 200 = .ok (.ireturn, 1) := by decide +kernel
theorem dL_law_201 : decode cL_law 201 = .ok (.goto 880, 3) := by decide +kernel
theorem dL_law_204 : decode cL_law 204 = .ok (.aload_n 1, 1) := by decide +kernel
theorem dL_law_205 : decode cL_law 205 = .ok (.aload_n 0, 1) := by decide +kernel
theorem dL_law_206 : decode cL_law 206 = .ok (.iload 4, 2) := by decide +kernel
theorem dL_law_208 : decode cL_law 208 = .ok (.iconst 1, 1) := by decide +kernel
theorem dL_law_209 : decode cL_law 209 = .ok (.iadd, 1) := by decide +kernel
theorem dL_law_210 : decode cL_law 210 = .ok (.iaload, 1) := by decide +kernel
theorem dL_law_211 : decode cL_law 211 = .ok (.aload_n 0, 1) := by decide +kernel
theorem dL_law_212 : decode cL_law 212 = .ok (.iload 4, 2) := by decide +kernel
theorem dL_law_214 : decode cL_law 214 = .ok (.iconst 2, 1) := by decide +kernel
theorem dL_law_215 : decode cL_law 215 = .ok (.iadd, 1) := by decide +kernel
theorem dL_law_216 : decode cL_law 216 = .ok (.iaload, 1) := by decide +kernel
theorem dL_law_217 : decode cL_law 217 = .ok (.aload_n 3, 1) := by decide +kernel
theorem dL_law_218 : decode cL_law 218 = .ok (.invokestatic 80, 3) := by decide +kernel
theorem dL_law_221 : decode cL_law 221 = .ok (.istore 5, 2) := by decide +kernel
theorem dL_law_223 : decode cL_law 223 = .ok (.aload_n 2, 1) := by decide +kernel
theorem dL_law_224 : decode cL_law 224 = .ok (.aload_n 0, 1) := by decide +kernel
theorem dL_law_225 : decode cL_law 225 = .ok (.iload 4, 2) := by decide +kernel
theorem dL_law_227 : decode cL_law 227 = .ok (.iconst 1, 1) := by decide +kernel
theorem dL_law_228 : decode cL_law 228 = .ok (.iadd, 1) := by decide +kernel
theorem dL_law_229 : decode cL_law 229 = .ok (.iaload, 1) := by decide +kernel
theorem dL_law_230 : decode cL_law 230 = .ok (.aload_n 0, 1) := by decide +kernel
theorem dL_law_231 : decode cL_law 231 = .ok (.iload 4, 2) := by decide +kernel
theorem dL_law_233 : decode cL_law 233 = .ok (.iconst 2, 1) := by decide +kernel
theorem dL_law_234 : decode cL_law 234 = .ok (.iadd, 1) := by decide +kernel
theorem dL_law_235 : decode cL_law 235 = .ok (.iaload, 1) := by decide +kernel
theorem dL_law_236 : decode cL_law 236 = .ok (.invokevirtual 83, 3) := by decide +kernel
theorem dL_law_239 : decode cL_law 239 = .ok (.istore 6, 2) := by decide +kernel
theorem dL_law_241 : decode cL_law 241 = .ok (.aload_n 2, 1) := by decide +kernel
theorem dL_law_242 : decode cL_law 242 = .ok (.invokevirtual 76, 3) := by decide +kernel
theorem dL_law_245 : decode cL_law 245 = .ok (.iload 5, 2) := by decide +kernel
theorem dL_law_247 : decode cL_law 247 = .ok (.if_icmp .eq 5, 3) := by decide +kernel
theorem dL_law_250 : decode cL_law 250 = .ok (.iconst 0, 1) := by decide +kernel
theorem dL_law_251 : decode cL_law 251 = .ok (.ireturn, 1) := by decide +kernel
theorem dL_law_252 : decode cL_law 252 = .ok (.iload 5, 2) := by decide +kernel
theorem dL_law_254 : decode cL_law 254 = .ok (.ifCond .ne 15, 3) := by decide +kernel
theorem dL_law_257 : decode cL_law 257 = .ok (.aload_n 3, 1) := by decide +kernel
theorem dL_law_258 : decode cL_law 258 = .ok (.iconst 0, 1) := by decide +kernel
theorem dL_law_259 : decode cL_law 259 = .ok (.laload, 1) := by decide +kernel
theorem dL_law_260 : decode cL_law 260 = .ok (.iload 6, 2) := by decide +kernel
theorem dL_law_262 : decode cL_law 262 = .ok (.i2l, 1) := by decide +kernel
theorem dL_law_263 : decode cL_law 263 = .ok (.lcmp, 1) := by decide +kernel
theorem dL_law_264 : decode cL_law 264 = .ok (.ifCond .eq 5, 3) := by decide +kernel
theorem dL_law_267 : decode cL_law 267 = .ok (.iconst 0, 1) := by decide +kernel
theorem dL_law_268 : decode cL_law 268 = .ok (.ireturn, 1) := by decide +kernel
theorem dL_law_269 : decode cL_law 269 = .ok (.goto 812, 3) := by decide +kernel
theorem dL_law_272 : decode cL_law 272 = .ok (.aload_n 1, 1) := by decide +kernel
theorem dL_law_273 : decode cL_law 273 = .ok (.aload_n 0, 1) := by decide +kernel
theorem dL_law_274 : decode cL_law 274 = .ok (.iload 4, 2) := by decide +kernel
theorem dL_law_276 : decode cL_law 276 = .ok (.iconst 1, 1) := by decide +kernel
theorem dL_law_277 : decode cL_law 277 = .ok (.iadd, 1) := by decide +kernel
theorem dL_law_278 : decode cL_law 278 = .ok (.iaload, 1) := by decide +kernel
theorem dL_law_279 : decode cL_law 279 = .ok (.ifCond .eq 7, 3) := by decide +kernel
theorem dL_law_282 : decode cL_law 282 = .ok (.iconst 1, 1) := by decide +kernel
theorem dL_law_283 : decode cL_law 283 = .ok (.goto 4, 3) := by decide +kernel
theorem dL_law_286 : decode cL_law 286 = .ok (.iconst 0, 1) := by decide +kernel
theorem dL_law_287 : decode cL_law 287 = .ok (.invokevirtual 84, 3) := by decide +kernel
theorem dL_law_290 : decode cL_law 290 = .ok (.aload_n 2, 1) := by decide +kernel
theorem dL_law_291 : decode cL_law 291 = .ok (.aload_n 0, 1) := by decide +kernel
theorem dL_law_292 : decode cL_law 292 = .ok (.iload 4, 2) := by decide +kernel
theorem dL_law_294 : decode cL_law 294 = .ok (.iconst 1, 1) := by decide +kernel
theorem dL_law_295 : decode cL_law 295 = .ok (.iadd, 1) := by decide +kernel
theorem dL_law_296 : decode cL_law 296 = .ok (.iaload, 1) := by decide +kernel
theorem dL_law_297 : decode cL_law 297 = .ok (.ifCond .eq 7, 3) := by decide +kernel
theorem dL_law_300 : decode cL_law 300 = .ok (.iconst 1, 1) := by decide +kernel
theorem dL_law_301 : decode cL_law 301 = .ok (.goto 4, 3) := by decide +kernel
theorem dL_law_304 : decode cL_law 304 = .ok (.iconst 0, 1) := by decide +kernel
theorem dL_law_305 : decode cL_law 305 = .ok (.invokevirtual 88, 3) := by decide +kernel
theorem dL_law_308 : decode cL_law 308 = .ok (.if_icmp .eq 773, 3) := by decide +kernel
theorem dL_law_311 : decode cL_law 311 = .ok (.iconst 0, 1) := by decide +kernel
theorem dL_law_312 : decode cL_law 312 = .ok (.ireturn, 1) := by decide +kernel
theorem dL_law_313 : decode cL_law 313 = .ok (.aload_n 1, 1) := by decide +kernel
theorem dL_law_314 : decode cL_law 314 = .ok (.aload_n 0, 1) := by decide +kernel
theorem dL_law_315 : decode cL_law 315 = .ok (.iload 4, 2) := by decide +kernel
theorem dL_law_317 : decode cL_law 317 = .ok (.iconst 1, 1) := by decide +kernel
theorem dL_law_318 : decode cL_law 318 = .ok (.iadd, 1) := by decide +kernel
theorem dL_law_319 : decode cL_law 319 = .ok (.iaload, 1) := by decide +kernel
theorem dL_law_320 : decode cL_law 320 = .ok (.aload_n 0, 1) := by decide +kernel
theorem dL_law_321 : decode cL_law 321 = .ok (.iload 4, 2) := by decide +kernel
theorem dL_law_323 : decode cL_law 323 = .ok (.iconst 2, 1) := by decide +kernel
theorem dL_law_324 : decode cL_law 324 = .ok (.iadd, 1) := by decide +kernel
theorem dL_law_325 : decode cL_law 325 = .ok (.iaload, 1) := by decide +kernel
theorem dL_law_326 : decode cL_law 326 = .ok (.aload_n 0, 1) := by decide +kernel
theorem dL_law_327 : decode cL_law 327 = .ok (.iload 4, 2) := by decide +kernel
theorem dL_law_329 : decode cL_law 329 = .ok (.iconst 3, 1) := by decide +kernel
theorem dL_law_330 : decode cL_law 330 = .ok (.iadd, 1) := by decide +kernel
theorem dL_law_331 : decode cL_law 331 = .ok (.iaload, 1) := by decide +kernel
theorem dL_law_332 : decode cL_law 332 = .ok (.aload_n 0, 1) := by decide +kernel
theorem dL_law_333 : decode cL_law 333 = .ok (.iload 4, 2) := by decide +kernel
theorem dL_law_335 : decode cL_law 335 = .ok (.iconst 4, 1) := by decide +kernel
theorem dL_law_336 : decode cL_law 336 = .ok (.iadd, 1) := by decide +kernel
theorem dL_law_337 : decode cL_law 337 = .ok (.iaload, 1) := by decide +kernel
theorem dL_law_338 : decode cL_law 338 = .ok (.aload_n 3, 1) := by decide +kernel
theorem dL_law_339 : decode cL_law 339 = .ok (.invokestatic 89, 3) := by decide +kernel
theorem dL_law_342 : decode cL_law 342 = .ok (.istore 5, 2) := by decide +kernel
theorem dL_law_344 : decode cL_law 344 = .ok (.aload_n 2, 1) := by decide +kernel
theorem dL_law_345 : decode cL_law 345 = .ok (.aload_n 0, 1) := by decide +kernel
theorem dL_law_346 : decode cL_law 346 = .ok (.iload 4, 2) := by decide +kernel
theorem dL_law_348 : decode cL_law 348 = .ok (.iconst 1, 1) := by decide +kernel
theorem dL_law_349 : decode cL_law 349 = .ok (.iadd, 1) := by decide +kernel
theorem dL_law_350 : decode cL_law 350 = .ok (.iaload, 1) := by decide +kernel
theorem dL_law_351 : decode cL_law 351 = .ok (.aload_n 0, 1) := by decide +kernel
theorem dL_law_352 : decode cL_law 352 = .ok (.iload 4, 2) := by decide +kernel
theorem dL_law_354 : decode cL_law 354 = .ok (.iconst 2, 1) := by decide +kernel
theorem dL_law_355 : decode cL_law 355 = .ok (.iadd, 1) := by decide +kernel
theorem dL_law_356 : decode cL_law 356 = .ok (.iaload, 1) := by decide +kernel
theorem dL_law_357 : decode cL_law 357 = .ok (.aload_n 0, 1) := by decide +kernel
theorem dL_law_358 : decode cL_law 358 = .ok (.iload 4, 2) := by decide +kernel
theorem dL_law_360 : decode cL_law 360 = .ok (.iconst 3, 1) := by decide +kernel
theorem dL_law_361 : decode cL_law 361 = .ok (.iadd, 1) := by decide +kernel
theorem dL_law_362 : decode cL_law 362 = .ok (.iaload, 1) := by decide +kernel
theorem dL_law_363 : decode cL_law 363 = .ok (.aload_n 0, 1) := by decide +kernel
theorem dL_law_364 : decode cL_law 364 = .ok (.iload 4, 2) := by decide +kernel
theorem dL_law_366 : decode cL_law 366 = .ok (.iconst 4, 1) := by decide +kernel
theorem dL_law_367 : decode cL_law 367 = .ok (.iadd, 1) := by decide +kernel
theorem dL_law_368 : decode cL_law 368 = .ok (.iaload, 1) := by decide +kernel
theorem dL_law_369 : decode cL_law 369 = .ok (.invokevirtual 92, 3) := by decide +kernel
theorem dL_law_372 : decode cL_law 372 = .ok (.istore 6, 2) := by decide +kernel
theorem dL_law_374 : decode cL_law 374 = .ok (.aload_n 2, 1) := by decide +kernel
theorem dL_law_375 : decode cL_law 375 = .ok (.invokevirtual 76, 3) := by decide +kernel
theorem dL_law_378 : decode cL_law 378 = .ok (.iload 5, 2) := by decide +kernel
theorem dL_law_380 : decode cL_law 380 = .ok (.if_icmp .eq 5, 3) := by decide +kernel
theorem dL_law_383 : decode cL_law 383 = .ok (.iconst 0, 1) := by decide +kernel
theorem dL_law_384 : decode cL_law 384 = .ok (.ireturn, 1) := by decide +kernel
theorem dL_law_385 : decode cL_law 385 = .ok (.iload 5, 2) := by decide +kernel
theorem dL_law_387 : decode cL_law 387 = .ok (.ifCond .ne 15, 3) := by decide +kernel
theorem dL_law_390 : decode cL_law 390 = .ok (.aload_n 3, 1) := by decide +kernel
theorem dL_law_391 : decode cL_law 391 = .ok (.iconst 0, 1) := by decide +kernel
theorem dL_law_392 : decode cL_law 392 = .ok (.laload, 1) := by decide +kernel
theorem dL_law_393 : decode cL_law 393 = .ok (.iload 6, 2) := by decide +kernel
theorem dL_law_395 : decode cL_law 395 = .ok (.i2l, 1) := by decide +kernel
theorem dL_law_396 : decode cL_law 396 = .ok (.lcmp, 1) := by decide +kernel
theorem dL_law_397 : decode cL_law 397 = .ok (.ifCond .eq 5, 3) := by decide +kernel
theorem dL_law_400 : decode cL_law 400 = .ok (.iconst 0, 1) := by decide +kernel
theorem dL_law_401 : decode cL_law 401 = .ok (.ireturn, 1) := by decide +kernel
theorem dL_law_402 : decode cL_law 402 = .ok (.goto 679, 3) := by decide +kernel
theorem dL_law_405 : decode cL_law 405 = .ok (.aload_n 1, 1) := by decide +kernel
theorem dL_law_406 : decode cL_law 406 = .ok (.aload_n 0, 1) := by decide +kernel
theorem dL_law_407 : decode cL_law 407 = .ok (.iload 4, 2) := by decide +kernel
theorem dL_law_409 : decode cL_law 409 = .ok (.iconst 1, 1) := by decide +kernel
theorem dL_law_410 : decode cL_law 410 = .ok (.iadd, 1) := by decide +kernel
theorem dL_law_411 : decode cL_law 411 = .ok (.iaload, 1) := by decide +kernel
theorem dL_law_412 : decode cL_law 412 = .ok (.aload_n 3, 1) := by decide +kernel
theorem dL_law_413 : decode cL_law 413 = .ok (.invokestatic 93, 3) := by decide +kernel
theorem dL_law_416 : decode cL_law 416 = .ok (.istore 5, 2) := by decide +kernel
theorem dL_law_418 : decode cL_law 418 = .ok (.aload_n 2, 1) := by decide +kernel
theorem dL_law_419 : decode cL_law 419 = .ok (.aload_n 0, 1) := by decide +kernel
theorem dL_law_420 : decode cL_law 420 = .ok (.iload 4, 2) := by decide +kernel
theorem dL_law_422 : decode cL_law 422 = .ok (.iconst 1, 1) := by decide +kernel
theorem dL_law_423 : decode cL_law 423 = .ok (.iadd, 1) := by decide +kernel
theorem dL_law_424 : decode cL_law 424 = .ok (.iaload, 1) := by decide +kernel
theorem dL_law_425 : decode cL_law 425 = .ok (.invokevirtual 96, 3) := by decide +kernel
theorem dL_law_428 : decode cL_law 428 = .ok (.istore 6, 2) := by decide +kernel
theorem dL_law_430 : decode cL_law 430 = .ok (.aload_n 2, 1) := by decide +kernel
theorem dL_law_431 : decode cL_law 431 = .ok (.invokevirtual 76, 3) := by decide +kernel
theorem dL_law_434 : decode cL_law 434 = .ok (.iload 5, 2) := by decide +kernel
theorem dL_law_436 : decode cL_law 436 = .ok (.if_icmp .eq 5, 3) := by decide +kernel
theorem dL_law_439 : decode cL_law 439 = .ok (.iconst 0, 1) := by decide +kernel
theorem dL_law_440 : decode cL_law 440 = .ok (.ireturn, 1) := by decide +kernel
theorem dL_law_441 : decode cL_law 441 = .ok (.iload 5, 2) := by decide +kernel
theorem dL_law_443 : decode cL_law 443 = .ok (.ifCond .ne 15, 3) := by decide +kernel
theorem dL_law_446 : decode cL_law 446 = .ok (.aload_n 3, 1) := by decide +kernel
theorem dL_law_447 : decode cL_law 447 = .ok (.iconst 0, 1) := by decide +kernel
theorem dL_law_448 : decode cL_law 448 = .ok (.laload, 1) := by decide +kernel
theorem dL_law_449 : decode cL_law 449 = .ok (.iload 6, 2) := by decide +kernel
theorem dL_law_451 : decode cL_law 451 = .ok (.i2l, 1) := by decide +kernel
theorem dL_law_452 : decode cL_law 452 = .ok (.lcmp, 1) := by decide +kernel
theorem dL_law_453 : decode cL_law 453 = .ok (.ifCond .eq 5, 3) := by decide +kernel
theorem dL_law_456 : decode cL_law 456 = .ok (.iconst 0, 1) := by decide +kernel
theorem dL_law_457 : decode cL_law 457 = .ok (.ireturn, 1) := by decide +kernel
theorem dL_law_458 : decode cL_law 458 = .ok (.goto 623, 3) := by decide +kernel
theorem dL_law_461 : decode cL_law 461 = .ok (.aload_n 1, 1) := by decide +kernel
theorem dL_law_462 : decode cL_law 462 = .ok (.aload_n 0, 1) := by decide +kernel
theorem dL_law_463 : decode cL_law 463 = .ok (.iload 4, 2) := by decide +kernel
theorem dL_law_465 : decode cL_law 465 = .ok (.iconst 1, 1) := by decide +kernel
theorem dL_law_466 : decode cL_law 466 = .ok (.iadd, 1) := by decide +kernel
theorem dL_law_467 : decode cL_law 467 = .ok (.iaload, 1) := by decide +kernel
theorem dL_law_468 : decode cL_law 468 = .ok (.aload_n 3, 1) := by decide +kernel
theorem dL_law_469 : decode cL_law 469 = .ok (.invokestatic 97, 3) := by decide +kernel
theorem dL_law_472 : decode cL_law 472 = .ok (.istore 5, 2) := by decide +kernel
theorem dL_law_474 : decode cL_law 474 = .ok (.aload_n 2, 1) := by decide +kernel
theorem dL_law_475 : decode cL_law 475 = .ok (.aload_n 0, 1) := by decide +kernel
theorem dL_law_476 : decode cL_law 476 = .ok (.iload 4, 2) := by decide +kernel
theorem dL_law_478 : decode cL_law 478 = .ok (.iconst 1, 1) := by decide +kernel
theorem dL_law_479 : decode cL_law 479 = .ok (.iadd, 1) := by decide +kernel
theorem dL_law_480 : decode cL_law 480 = .ok (.iaload, 1) := by decide +kernel
theorem dL_law_481 : decode cL_law 481 = .ok (.invokevirtual 99, 3) := by decide +kernel
theorem dL_law_484 : decode cL_law 484 = .ok (.istore 6, 2) := by decide +kernel
theorem dL_law_486 : decode cL_law 486 = .ok (.aload_n 2, 1) := by decide +kernel
theorem dL_law_487 : decode cL_law 487 = .ok (.invokevirtual 76, 3) := by decide +kernel
theorem dL_law_490 : decode cL_law 490 = .ok (.iload 5, 2) := by decide +kernel
theorem dL_law_492 : decode cL_law 492 = .ok (.if_icmp .eq 5, 3) := by decide +kernel
theorem dL_law_495 : decode cL_law 495 = .ok (.iconst 0, 1) := by decide +kernel
theorem dL_law_496 : decode cL_law 496 = .ok (.ireturn, 1) := by decide +kernel
theorem dL_law_497 : decode cL_law 497 = .ok (.iload 5, 2) := by decide +kernel
theorem dL_law_499 : decode cL_law 499 = .ok (.ifCond .ne 15, 3) := by decide +kernel
theorem dL_law_502 : decode cL_law 502 = .ok (.aload_n 3, 1) := by decide +kernel
theorem dL_law_503 : decode cL_law 503 = .ok (.iconst 0, 1) := by decide +kernel
theorem dL_law_504 : decode cL_law 504 = .ok (.laload, 1) := by decide +kernel
theorem dL_law_505 : decode cL_law 505 = .ok (.iload 6, 2) := by decide +kernel
theorem dL_law_507 : decode cL_law 507 = .ok (.i2l, 1) := by decide +kernel
theorem dL_law_508 : decode cL_law 508 = .ok (.lcmp, 1) := by decide +kernel
theorem dL_law_509 : decode cL_law 509 = .ok (.ifCond .eq 5, 3) := by decide +kernel
theorem dL_law_512 : decode cL_law 512 = .ok (.iconst 0, 1) := by decide +kernel
theorem dL_law_513 : decode cL_law 513 = .ok (.ireturn, 1) := by decide +kernel
theorem dL_law_514 : decode cL_law 514 = .ok (.goto 567, 3) := by decide +kernel
theorem dL_law_517 : decode cL_law 517 = .ok (.aload_n 1, 1) := by decide +kernel
theorem dL_law_518 : decode cL_law 518 = .ok (.aload_n 0, 1) := by decide +kernel
theorem dL_law_519 : decode cL_law 519 = .ok (.iload 4, 2) := by decide +kernel
theorem dL_law_521 : decode cL_law 521 = .ok (.iconst 1, 1) := by decide +kernel
theorem dL_law_522 : decode cL_law 522 = .ok (.iadd, 1) := by decide +kernel
theorem dL_law_523 : decode cL_law 523 = .ok (.iaload, 1) := by decide +kernel
theorem dL_law_524 : decode cL_law 524 = .ok (.aload_n 0, 1) := by decide +kernel
theorem dL_law_525 : decode cL_law 525 = .ok (.iload 4, 2) := by decide +kernel
theorem dL_law_527 : decode cL_law 527 = .ok (.iconst 2, 1) := by decide +kernel
theorem dL_law_528 : decode cL_law 528 = .ok (.iadd, 1) := by decide +kernel
theorem dL_law_529 : decode cL_law 529 = .ok (.iaload, 1) := by decide +kernel
theorem dL_law_530 : decode cL_law 530 = .ok (.aload_n 3, 1) := by decide +kernel
theorem dL_law_531 : decode cL_law 531 = .ok (.invokestatic 100, 3) := by decide +kernel
theorem dL_law_534 : decode cL_law 534 = .ok (.istore 5, 2) := by decide +kernel
theorem dL_law_536 : decode cL_law 536 = .ok (.aload_n 2, 1) := by decide +kernel
theorem dL_law_537 : decode cL_law 537 = .ok (.aload_n 0, 1) := by decide +kernel
theorem dL_law_538 : decode cL_law 538 = .ok (.iload 4, 2) := by decide +kernel
theorem dL_law_540 : decode cL_law 540 = .ok (.iconst 1, 1) := by decide +kernel
theorem dL_law_541 : decode cL_law 541 = .ok (.iadd, 1) := by decide +kernel
theorem dL_law_542 : decode cL_law 542 = .ok (.iaload, 1) := by decide +kernel
theorem dL_law_543 : decode cL_law 543 = .ok (.aload_n 0, 1) := by decide +kernel
theorem dL_law_544 : decode cL_law 544 = .ok (.iload 4, 2) := by decide +kernel
theorem dL_law_546 : decode cL_law 546 = .ok (.iconst 2, 1) := by decide +kernel
theorem dL_law_547 : decode cL_law 547 = .ok (.iadd, 1) := by decide +kernel
theorem dL_law_548 : decode cL_law 548 = .ok (.iaload, 1) := by decide +kernel
theorem dL_law_549 : decode cL_law 549 = .ok (.invokevirtual 102, 3) := by decide +kernel
theorem dL_law_552 : decode cL_law 552 = .ok (.istore 6, 2) := by decide +kernel
theorem dL_law_554 : decode cL_law 554 = .ok (.aload_n 2, 1) := by decide +kernel
theorem dL_law_555 : decode cL_law 555 = .ok (.invokevirtual 76, 3) := by decide +kernel
theorem dL_law_558 : decode cL_law 558 = .ok (.iload 5, 2) := by decide +kernel
theorem dL_law_560 : decode cL_law 560 = .ok (.if_icmp .eq 5, 3) := by decide +kernel
theorem dL_law_563 : decode cL_law 563 = .ok (.iconst 0, 1) := by decide +kernel
theorem dL_law_564 : decode cL_law 564 = .ok (.ireturn, 1) := by decide +kernel
theorem dL_law_565 : decode cL_law 565 = .ok (.iload 5, 2) := by decide +kernel
theorem dL_law_567 : decode cL_law 567 = .ok (.ifCond .ne 15, 3) := by decide +kernel
theorem dL_law_570 : decode cL_law 570 = .ok (.aload_n 3, 1) := by decide +kernel
theorem dL_law_571 : decode cL_law 571 = .ok (.iconst 0, 1) := by decide +kernel
theorem dL_law_572 : decode cL_law 572 = .ok (.laload, 1) := by decide +kernel
theorem dL_law_573 : decode cL_law 573 = .ok (.iload 6, 2) := by decide +kernel
theorem dL_law_575 : decode cL_law 575 = .ok (.i2l, 1) := by decide +kernel
theorem dL_law_576 : decode cL_law 576 = .ok (.lcmp, 1) := by decide +kernel
theorem dL_law_577 : decode cL_law 577 = .ok (.ifCond .eq 5, 3) := by decide +kernel
theorem dL_law_580 : decode cL_law 580 = .ok (.iconst 0, 1) := by decide +kernel
theorem dL_law_581 : decode cL_law 581 = .ok (.ireturn, 1) := by decide +kernel
theorem dL_law_582 : decode cL_law 582 = .ok (.goto 499, 3) := by decide +kernel
theorem dL_law_585 : decode cL_law 585 = .ok (.aload_n 1, 1) := by decide +kernel
theorem dL_law_586 : decode cL_law 586 = .ok (.aload_n 0, 1) := by decide +kernel
theorem dL_law_587 : decode cL_law 587 = .ok (.iload 4, 2) := by decide +kernel
theorem dL_law_589 : decode cL_law 589 = .ok (.iconst 1, 1) := by decide +kernel
theorem dL_law_590 : decode cL_law 590 = .ok (.iadd, 1) := by decide +kernel
theorem dL_law_591 : decode cL_law 591 = .ok (.iaload, 1) := by decide +kernel
theorem dL_law_592 : decode cL_law 592 = .ok (.aload_n 3, 1) := by decide +kernel
theorem dL_law_593 : decode cL_law 593 = .ok (.invokestatic 103, 3) := by decide +kernel
theorem dL_law_596 : decode cL_law 596 = .ok (.istore 5, 2) := by decide +kernel
theorem dL_law_598 : decode cL_law 598 = .ok (.aload_n 2, 1) := by decide +kernel
theorem dL_law_599 : decode cL_law 599 = .ok (.aload_n 0, 1) := by decide +kernel
theorem dL_law_600 : decode cL_law 600 = .ok (.iload 4, 2) := by decide +kernel
theorem dL_law_602 : decode cL_law 602 = .ok (.iconst 1, 1) := by decide +kernel
theorem dL_law_603 : decode cL_law 603 = .ok (.iadd, 1) := by decide +kernel
theorem dL_law_604 : decode cL_law 604 = .ok (.iaload, 1) := by decide +kernel
theorem dL_law_605 : decode cL_law 605 = .ok (.invokevirtual 105, 3) := by decide +kernel
theorem dL_law_608 : decode cL_law 608 = .ok (.istore 6, 2) := by decide +kernel
theorem dL_law_610 : decode cL_law 610 = .ok (.aload_n 2, 1) := by decide +kernel
theorem dL_law_611 : decode cL_law 611 = .ok (.invokevirtual 76, 3) := by decide +kernel
theorem dL_law_614 : decode cL_law 614 = .ok (.iload 5, 2) := by decide +kernel
theorem dL_law_616 : decode cL_law 616 = .ok (.if_icmp .eq 5, 3) := by decide +kernel
theorem dL_law_619 : decode cL_law 619 = .ok (.iconst 0, 1) := by decide +kernel
theorem dL_law_620 : decode cL_law 620 = .ok (.ireturn, 1) := by decide +kernel
theorem dL_law_621 : decode cL_law 621 = .ok (.iload 5, 2) := by decide +kernel
theorem dL_law_623 : decode cL_law 623 = .ok (.ifCond .ne 15, 3) := by decide +kernel
theorem dL_law_626 : decode cL_law 626 = .ok (.aload_n 3, 1) := by decide +kernel
theorem dL_law_627 : decode cL_law 627 = .ok (.iconst 0, 1) := by decide +kernel
theorem dL_law_628 : decode cL_law 628 = .ok (.laload, 1) := by decide +kernel
theorem dL_law_629 : decode cL_law 629 = .ok (.iload 6, 2) := by decide +kernel
theorem dL_law_631 : decode cL_law 631 = .ok (.i2l, 1) := by decide +kernel
theorem dL_law_632 : decode cL_law 632 = .ok (.lcmp, 1) := by decide +kernel
theorem dL_law_633 : decode cL_law 633 = .ok (.ifCond .eq 5, 3) := by decide +kernel
theorem dL_law_636 : decode cL_law 636 = .ok (.iconst 0, 1) := by decide +kernel
theorem dL_law_637 : decode cL_law 637 = .ok (.ireturn, 1) := by decide +kernel
theorem dL_law_638 : decode cL_law 638 = .ok (.goto 443, 3) := by decide +kernel
theorem dL_law_641 : decode cL_law 641 = .ok (.aload_n 1, 1) := by decide +kernel
theorem dL_law_642 : decode cL_law 642 = .ok (.aload_n 0, 1) := by decide +kernel
theorem dL_law_643 : decode cL_law 643 = .ok (.iload 4, 2) := by decide +kernel
theorem dL_law_645 : decode cL_law 645 = .ok (.iconst 1, 1) := by decide +kernel
theorem dL_law_646 : decode cL_law 646 = .ok (.iadd, 1) := by decide +kernel
theorem dL_law_647 : decode cL_law 647 = .ok (.iaload, 1) := by decide +kernel
theorem dL_law_648 : decode cL_law 648 = .ok (.aload_n 3, 1) := by decide +kernel
theorem dL_law_649 : decode cL_law 649 = .ok (.invokestatic 106, 3) := by decide +kernel
theorem dL_law_652 : decode cL_law 652 = .ok (.istore 5, 2) := by decide +kernel
theorem dL_law_654 : decode cL_law 654 = .ok (.aload_n 2, 1) := by decide +kernel
theorem dL_law_655 : decode cL_law 655 = .ok (.aload_n 0, 1) := by decide +kernel
theorem dL_law_656 : decode cL_law 656 = .ok (.iload 4, 2) := by decide +kernel
theorem dL_law_658 : decode cL_law 658 = .ok (.iconst 1, 1) := by decide +kernel
theorem dL_law_659 : decode cL_law 659 = .ok (.iadd, 1) := by decide +kernel
theorem dL_law_660 : decode cL_law 660 = .ok (.iaload, 1) := by decide +kernel
theorem dL_law_661 : decode cL_law 661 = .ok (.invokevirtual 108, 3) := by decide +kernel
theorem dL_law_664 : decode cL_law 664 = .ok (.istore 6, 2) := by decide +kernel
theorem dL_law_666 : decode cL_law 666 = .ok (.aload_n 2, 1) := by decide +kernel
theorem dL_law_667 : decode cL_law 667 = .ok (.invokevirtual 76, 3) := by decide +kernel
theorem dL_law_670 : decode cL_law 670 = .ok (.iload 5, 2) := by decide +kernel
theorem dL_law_672 : decode cL_law 672 = .ok (.if_icmp .eq 5, 3) := by decide +kernel
theorem dL_law_675 : decode cL_law 675 = .ok (.iconst 0, 1) := by decide +kernel
theorem dL_law_676 : decode cL_law 676 = .ok (.ireturn, 1) := by decide +kernel
theorem dL_law_677 : decode cL_law 677 = .ok (.iload 5, 2) := by decide +kernel
theorem dL_law_679 : decode cL_law 679 = .ok (.ifCond .ne 15, 3) := by decide +kernel
theorem dL_law_682 : decode cL_law 682 = .ok (.aload_n 3, 1) := by decide +kernel
theorem dL_law_683 : decode cL_law 683 = .ok (.iconst 0, 1) := by decide +kernel
theorem dL_law_684 : decode cL_law 684 = .ok (.laload, 1) := by decide +kernel
theorem dL_law_685 : decode cL_law 685 = .ok (.iload 6, 2) := by decide +kernel
theorem dL_law_687 : decode cL_law 687 = .ok (.i2l, 1) := by decide +kernel
theorem dL_law_688 : decode cL_law 688 = .ok (.lcmp, 1) := by decide +kernel
theorem dL_law_689 : decode cL_law 689 = .ok (.ifCond .eq 5, 3) := by decide +kernel
theorem dL_law_692 : decode cL_law 692 = .ok (.iconst 0, 1) := by decide +kernel
theorem dL_law_693 : decode cL_law 693 = .ok (.ireturn, 1) := by decide +kernel
theorem dL_law_694 : decode cL_law 694 = .ok (.goto 387, 3) := by decide +kernel
theorem dL_law_697 : decode cL_law 697 = .ok (.aload_n 1, 1) := by decide +kernel
theorem dL_law_698 : decode cL_law 698 = .ok (.aload_n 0, 1) := by decide +kernel
theorem dL_law_699 : decode cL_law 699 = .ok (.iload 4, 2) := by decide +kernel
theorem dL_law_701 : decode cL_law 701 = .ok (.iconst 1, 1) := by decide +kernel
theorem dL_law_702 : decode cL_law 702 = .ok (.iadd, 1) := by decide +kernel
theorem dL_law_703 : decode cL_law 703 = .ok (.iaload, 1) := by decide +kernel
theorem dL_law_704 : decode cL_law 704 = .ok (.aload_n 3, 1) := by decide +kernel
theorem dL_law_705 : decode cL_law 705 = .ok (.invokestatic 109, 3) := by decide +kernel
theorem dL_law_708 : decode cL_law 708 = .ok (.istore 5, 2) := by decide +kernel
theorem dL_law_710 : decode cL_law 710 = .ok (.aload_n 2, 1) := by decide +kernel
theorem dL_law_711 : decode cL_law 711 = .ok (.aload_n 0, 1) := by decide +kernel
theorem dL_law_712 : decode cL_law 712 = .ok (.iload 4, 2) := by decide +kernel
theorem dL_law_714 : decode cL_law 714 = .ok (.iconst 1, 1) := by decide +kernel
theorem dL_law_715 : decode cL_law 715 = .ok (.iadd, 1) := by decide +kernel
theorem dL_law_716 : decode cL_law 716 = .ok (.iaload, 1) := by decide +kernel
theorem dL_law_717 : decode cL_law 717 = .ok (.invokevirtual 111, 3) := by decide +kernel
theorem dL_law_720 : decode cL_law 720 = .ok (.istore 6, 2) := by decide +kernel
theorem dL_law_722 : decode cL_law 722 = .ok (.aload_n 2, 1) := by decide +kernel
theorem dL_law_723 : decode cL_law 723 = .ok (.invokevirtual 76, 3) := by decide +kernel
theorem dL_law_726 : decode cL_law 726 = .ok (.iload 5, 2) := by decide +kernel
theorem dL_law_728 : decode cL_law 728 = .ok (.if_icmp .eq 5, 3) := by decide +kernel
theorem dL_law_731 : decode cL_law 731 = .ok (.iconst 0, 1) := by decide +kernel
theorem dL_law_732 : decode cL_law 732 = .ok (.ireturn, 1) := by decide +kernel
theorem dL_law_733 : decode cL_law 733 = .ok (.iload 5, 2) := by decide +kernel
theorem dL_law_735 : decode cL_law 735 = .ok (.ifCond .ne 15, 3) := by decide +kernel
theorem dL_law_738 : decode cL_law 738 = .ok (.aload_n 3, 1) := by decide +kernel
theorem dL_law_739 : decode cL_law 739 = .ok (.iconst 0, 1) := by decide +kernel
theorem dL_law_740 : decode cL_law 740 = .ok (.laload, 1) := by decide +kernel
theorem dL_law_741 : decode cL_law 741 = .ok (.iload 6, 2) := by decide +kernel
theorem dL_law_743 : decode cL_law 743 = .ok (.i2l, 1) := by decide +kernel
theorem dL_law_744 : decode cL_law 744 = .ok (.lcmp, 1) := by decide +kernel
theorem dL_law_745 : decode cL_law 745 = .ok (.ifCond .eq 5, 3) := by decide +kernel
theorem dL_law_748 : decode cL_law 748 = .ok (.iconst 0, 1) := by decide +kernel
theorem dL_law_749 : decode cL_law 749 = .ok (.ireturn, 1) := by decide +kernel
theorem dL_law_750 : decode cL_law 750 = .ok (.goto 331, 3) := by decide +kernel
theorem dL_law_753 : decode cL_law 753 = .ok (.aload_n 1, 1) := by decide +kernel
theorem dL_law_754 : decode cL_law 754 = .ok (.aload_n 0, 1) := by decide +kernel
theorem dL_law_755 : decode cL_law 755 = .ok (.iload 4, 2) := by decide +kernel
theorem dL_law_757 : decode cL_law 757 = .ok (.iconst 1, 1) := by decide +kernel
theorem dL_law_758 : decode cL_law 758 = .ok (.iadd, 1) := by decide +kernel
theorem dL_law_759 : decode cL_law 759 = .ok (.iaload, 1) := by decide +kernel
theorem dL_law_760 : decode cL_law 760 = .ok (.aload_n 0, 1) := by decide +kernel
theorem dL_law_761 : decode cL_law 761 = .ok (.iload 4, 2) := by decide +kernel
theorem dL_law_763 : decode cL_law 763 = .ok (.iconst 2, 1) := by decide +kernel
theorem dL_law_764 : decode cL_law 764 = .ok (.iadd, 1) := by decide +kernel
theorem dL_law_765 : decode cL_law 765 = .ok (.iaload, 1) := by decide +kernel
theorem dL_law_766 : decode cL_law 766 = .ok (.aload_n 3, 1) := by decide +kernel
theorem dL_law_767 : decode cL_law 767 = .ok (.invokestatic 112, 3) := by decide +kernel
theorem dL_law_770 : decode cL_law 770 = .ok (.istore 5, 2) := by decide +kernel
theorem dL_law_772 : decode cL_law 772 = .ok (.aload_n 2, 1) := by decide +kernel
theorem dL_law_773 : decode cL_law 773 = .ok (.aload_n 0, 1) := by decide +kernel
theorem dL_law_774 : decode cL_law 774 = .ok (.iload 4, 2) := by decide +kernel
theorem dL_law_776 : decode cL_law 776 = .ok (.iconst 1, 1) := by decide +kernel
theorem dL_law_777 : decode cL_law 777 = .ok (.iadd, 1) := by decide +kernel
theorem dL_law_778 : decode cL_law 778 = .ok (.iaload, 1) := by decide +kernel
theorem dL_law_779 : decode cL_law 779 = .ok (.aload_n 0, 1) := by decide +kernel
theorem dL_law_780 : decode cL_law 780 = .ok (.iload 4, 2) := by decide +kernel
theorem dL_law_782 : decode cL_law 782 = .ok (.iconst 2, 1) := by decide +kernel
theorem dL_law_783 : decode cL_law 783 = .ok (.iadd, 1) := by decide +kernel
theorem dL_law_784 : decode cL_law 784 = .ok (.iaload, 1) := by decide +kernel
theorem dL_law_785 : decode cL_law 785 = .ok (.invokevirtual 114, 3) := by decide +kernel
theorem dL_law_788 : decode cL_law 788 = .ok (.istore 6, 2) := by decide +kernel
theorem dL_law_790 : decode cL_law 790 = .ok (.aload_n 2, 1) := by decide +kernel
theorem dL_law_791 : decode cL_law 791 = .ok (.invokevirtual 76, 3) := by decide +kernel
theorem dL_law_794 : decode cL_law 794 = .ok (.iload 5, 2) := by decide +kernel
theorem dL_law_796 : decode cL_law 796 = .ok (.if_icmp .eq 5, 3) := by decide +kernel
theorem dL_law_799 : decode cL_law 799 = .ok (.iconst 0, 1) := by decide +kernel
theorem dL_law_800 : decode cL_law 800 = .ok (.ireturn, 1) := by decide +kernel
theorem dL_law_801 : decode cL_law 801 = .ok (.iload 5, 2) := by decide +kernel
theorem dL_law_803 : decode cL_law 803 = .ok (.ifCond .ne 15, 3) := by decide +kernel
theorem dL_law_806 : decode cL_law 806 = .ok (.aload_n 3, 1) := by decide +kernel
theorem dL_law_807 : decode cL_law 807 = .ok (.iconst 0, 1) := by decide +kernel
theorem dL_law_808 : decode cL_law 808 = .ok (.laload, 1) := by decide +kernel
theorem dL_law_809 : decode cL_law 809 = .ok (.iload 6, 2) := by decide +kernel
theorem dL_law_811 : decode cL_law 811 = .ok (.i2l, 1) := by decide +kernel
theorem dL_law_812 : decode cL_law 812 = .ok (.lcmp, 1) := by decide +kernel
theorem dL_law_813 : decode cL_law 813 = .ok (.ifCond .eq 5, 3) := by decide +kernel
theorem dL_law_816 : decode cL_law 816 = .ok (.iconst 0, 1) := by decide +kernel
theorem dL_law_817 : decode cL_law 817 = .ok (.ireturn, 1) := by decide +kernel
theorem dL_law_818 : decode cL_law 818 = .ok (.goto 263, 3) := by decide +kernel
theorem dL_law_821 : decode cL_law 821 = .ok (.aload_n 1, 1) := by decide +kernel
theorem dL_law_822 : decode cL_law 822 = .ok (.aload_n 0, 1) := by decide +kernel
theorem dL_law_823 : decode cL_law 823 = .ok (.iload 4, 2) := by decide +kernel
theorem dL_law_825 : decode cL_law 825 = .ok (.iconst 1, 1) := by decide +kernel
theorem dL_law_826 : decode cL_law 826 = .ok (.iadd, 1) := by decide +kernel
theorem dL_law_827 : decode cL_law 827 = .ok (.iaload, 1) := by decide +kernel
theorem dL_law_828 : decode cL_law 828 = .ok (.aload_n 0, 1) := by decide +kernel
theorem dL_law_829 : decode cL_law 829 = .ok (.iload 4, 2) := by decide +kernel
theorem dL_law_831 : decode cL_law 831 = .ok (.iconst 2, 1) := by decide +kernel
theorem dL_law_832 : decode cL_law 832 = .ok (.iadd, 1) := by decide +kernel
theorem dL_law_833 : decode cL_law 833 = .ok (.iaload, 1) := by decide +kernel
theorem dL_law_834 : decode cL_law 834 = .ok (.aload_n 3, 1) := by decide +kernel
theorem dL_law_835 : decode cL_law 835 = .ok (.invokestatic 115, 3) := by decide +kernel
theorem dL_law_838 : decode cL_law 838 = .ok (.istore 5, 2) := by decide +kernel
theorem dL_law_840 : decode cL_law 840 = .ok (.aload_n 2, 1) := by decide +kernel
theorem dL_law_841 : decode cL_law 841 = .ok (.aload_n 0, 1) := by decide +kernel
theorem dL_law_842 : decode cL_law 842 = .ok (.iload 4, 2) := by decide +kernel
theorem dL_law_844 : decode cL_law 844 = .ok (.iconst 1, 1) := by decide +kernel
theorem dL_law_845 : decode cL_law 845 = .ok (.iadd, 1) := by decide +kernel
theorem dL_law_846 : decode cL_law 846 = .ok (.iaload, 1) := by decide +kernel
theorem dL_law_847 : decode cL_law 847 = .ok (.aload_n 0, 1) := by decide +kernel
theorem dL_law_848 : decode cL_law 848 = .ok (.iload 4, 2) := by decide +kernel
theorem dL_law_850 : decode cL_law 850 = .ok (.iconst 2, 1) := by decide +kernel
theorem dL_law_851 : decode cL_law 851 = .ok (.iadd, 1) := by decide +kernel
theorem dL_law_852 : decode cL_law 852 = .ok (.iaload, 1) := by decide +kernel
theorem dL_law_853 : decode cL_law 853 = .ok (.invokevirtual 117, 3) := by decide +kernel
theorem dL_law_856 : decode cL_law 856 = .ok (.istore 6, 2) := by decide +kernel
theorem dL_law_858 : decode cL_law 858 = .ok (.aload_n 2, 1) := by decide +kernel
theorem dL_law_859 : decode cL_law 859 = .ok (.invokevirtual 76, 3) := by decide +kernel
theorem dL_law_862 : decode cL_law 862 = .ok (.iload 5, 2) := by decide +kernel
theorem dL_law_864 : decode cL_law 864 = .ok (.if_icmp .eq 5, 3) := by decide +kernel
theorem dL_law_867 : decode cL_law 867 = .ok (.iconst 0, 1) := by decide +kernel
theorem dL_law_868 : decode cL_law 868 = .ok (.ireturn, 1) := by decide +kernel
theorem dL_law_869 : decode cL_law 869 = .ok (.iload 5, 2) := by decide +kernel
theorem dL_law_871 : decode cL_law 871 = .ok (.ifCond .ne 15, 3) := by decide +kernel
theorem dL_law_874 : decode cL_law 874 = .ok (.aload_n 3, 1) := by decide +kernel
theorem dL_law_875 : decode cL_law 875 = .ok (.iconst 0, 1) := by decide +kernel
theorem dL_law_876 : decode cL_law 876 = .ok (.laload, 1) := by decide +kernel
theorem dL_law_877 : decode cL_law 877 = .ok (.iload 6, 2) := by decide +kernel
theorem dL_law_879 : decode cL_law 879 = .ok (.i2l, 1) := by decide +kernel
theorem dL_law_880 : decode cL_law 880 = .ok (.lcmp, 1) := by decide +kernel
theorem dL_law_881 : decode cL_law 881 = .ok (.ifCond .eq 5, 3) := by decide +kernel
theorem dL_law_884 : decode cL_law 884 = .ok (.iconst 0, 1) := by decide +kernel
theorem dL_law_885 : decode cL_law 885 = .ok (.ireturn, 1) := by decide +kernel
theorem dL_law_886 : decode cL_law 886 = .ok (.goto 195, 3) := by decide +kernel
theorem dL_law_889 : decode cL_law 889 = .ok (.aload_n 1, 1) := by decide +kernel
theorem dL_law_890 : decode cL_law 890 = .ok (.aload_n 0, 1) := by decide +kernel
theorem dL_law_891 : decode cL_law 891 = .ok (.iload 4, 2) := by decide +kernel
theorem dL_law_893 : decode cL_law 893 = .ok (.iconst 1, 1) := by decide +kernel
theorem dL_law_894 : decode cL_law 894 = .ok (.iadd, 1) := by decide +kernel
theorem dL_law_895 : decode cL_law 895 = .ok (.iaload, 1) := by decide +kernel
theorem dL_law_896 : decode cL_law 896 = .ok (.aload_n 0, 1) := by decide +kernel
theorem dL_law_897 : decode cL_law 897 = .ok (.iload 4, 2) := by decide +kernel
theorem dL_law_899 : decode cL_law 899 = .ok (.iconst 2, 1) := by decide +kernel
theorem dL_law_900 : decode cL_law 900 = .ok (.iadd, 1) := by decide +kernel
theorem dL_law_901 : decode cL_law 901 = .ok (.iaload, 1) := by decide +kernel
theorem dL_law_902 : decode cL_law 902 = .ok (.aload_n 3, 1) := by decide +kernel
theorem dL_law_903 : decode cL_law 903 = .ok (.invokestatic 118, 3) := by decide +kernel
theorem dL_law_906 : decode cL_law 906 = .ok (.istore 5, 2) := by decide +kernel
theorem dL_law_908 : decode cL_law 908 = .ok (.aload_n 2, 1) := by decide +kernel
theorem dL_law_909 : decode cL_law 909 = .ok (.aload_n 0, 1) := by decide +kernel
theorem dL_law_910 : decode cL_law 910 = .ok (.iload 4, 2) := by decide +kernel
theorem dL_law_912 : decode cL_law 912 = .ok (.iconst 1, 1) := by decide +kernel
theorem dL_law_913 : decode cL_law 913 = .ok (.iadd, 1) := by decide +kernel
theorem dL_law_914 : decode cL_law 914 = .ok (.iaload, 1) := by decide +kernel
theorem dL_law_915 : decode cL_law 915 = .ok (.aload_n 0, 1) := by decide +kernel
theorem dL_law_916 : decode cL_law 916 = .ok (.iload 4, 2) := by decide +kernel
theorem dL_law_918 : decode cL_law 918 = .ok (.iconst 2, 1) := by decide +kernel
theorem dL_law_919 : decode cL_law 919 = .ok (.iadd, 1) := by decide +kernel
theorem dL_law_920 : decode cL_law 920 = .ok (.iaload, 1) := by decide +kernel
theorem dL_law_921 : decode cL_law 921 = .ok (.invokevirtual 120, 3) := by decide +kernel
theorem dL_law_924 : decode cL_law 924 = .ok (.istore 6, 2) := by decide +kernel
theorem dL_law_926 : decode cL_law 926 = .ok (.aload_n 2, 1) := by decide +kernel
theorem dL_law_927 : decode cL_law 927 = .ok (.invokevirtual 76, 3) := by decide +kernel
theorem dL_law_930 : decode cL_law 930 = .ok (.iload 5, 2) := by decide +kernel
theorem dL_law_932 : decode cL_law 932 = .ok (.if_icmp .eq 5, 3) := by decide +kernel
theorem dL_law_935 : decode cL_law 935 = .ok (.iconst 0, 1) := by decide +kernel
theorem dL_law_936 : decode cL_law 936 = .ok (.ireturn, 1) := by decide +kernel
theorem dL_law_937 : decode cL_law 937 = .ok (.iload 5, 2) := by decide +kernel
theorem dL_law_939 : decode cL_law 939 = .ok (.ifCond .ne 15, 3) := by decide +kernel
theorem dL_law_942 : decode cL_law 942 = .ok (.aload_n 3, 1) := by decide +kernel
theorem dL_law_943 : decode cL_law 943 = .ok (.iconst 0, 1) := by decide +kernel
theorem dL_law_944 : decode cL_law 944 = .ok (.laload, 1) := by decide +kernel
theorem dL_law_945 : decode cL_law 945 = .ok (.iload 6, 2) := by decide +kernel
theorem dL_law_947 : decode cL_law 947 = .ok (.i2l, 1) := by decide +kernel
theorem dL_law_948 : decode cL_law 948 = .ok (.lcmp, 1) := by decide +kernel
theorem dL_law_949 : decode cL_law 949 = .ok (.ifCond .eq 5, 3) := by decide +kernel
theorem dL_law_952 : decode cL_law 952 = .ok (.iconst 0, 1) := by decide +kernel
theorem dL_law_953 : decode cL_law 953 = .ok (.ireturn, 1) := by decide +kernel
theorem dL_law_954 : decode cL_law 954 = .ok (.goto 127, 3) := by decide +kernel
theorem dL_law_957 : decode cL_law 957 = .ok (.aload_n 1, 1) := by decide +kernel
theorem dL_law_958 : decode cL_law 958 = .ok (.aload_n 0, 1) := by decide +kernel
theorem dL_law_959 : decode cL_law 959 = .ok (.iload 4, 2) := by decide +kernel
theorem dL_law_961 : decode cL_law 961 = .ok (.iconst 1, 1) := by decide +kernel
theorem dL_law_962 : decode cL_law 962 = .ok (.iadd, 1) := by decide +kernel
theorem dL_law_963 : decode cL_law 963 = .ok (.iaload, 1) := by decide +kernel
theorem dL_law_964 : decode cL_law 964 = .ok (.aload_n 0, 1) := by decide +kernel
theorem dL_law_965 : decode cL_law 965 = .ok (.iload 4, 2) := by decide +kernel
theorem dL_law_967 : decode cL_law 967 = .ok (.iconst 2, 1) := by decide +kernel
theorem dL_law_968 : decode cL_law 968 = .ok (.iadd, 1) := by decide +kernel
theorem dL_law_969 : decode cL_law 969 = .ok (.iaload, 1) := by decide +kernel
theorem dL_law_970 : decode cL_law 970 = .ok (.aload_n 3, 1) := by decide +kernel
theorem dL_law_971 : decode cL_law 971 = .ok (.invokestatic 121, 3) := by decide +kernel
theorem dL_law_974 : decode cL_law 974 = .ok (.istore 5, 2) := by decide +kernel
theorem dL_law_976 : decode cL_law 976 = .ok (.aload_n 2, 1) := by decide +kernel
theorem dL_law_977 : decode cL_law 977 = .ok (.aload_n 0, 1) := by decide +kernel
theorem dL_law_978 : decode cL_law 978 = .ok (.iload 4, 2) := by decide +kernel
theorem dL_law_980 : decode cL_law 980 = .ok (.iconst 1, 1) := by decide +kernel
theorem dL_law_981 : decode cL_law 981 = .ok (.iadd, 1) := by decide +kernel
theorem dL_law_982 : decode cL_law 982 = .ok (.iaload, 1) := by decide +kernel
theorem dL_law_983 : decode cL_law 983 = .ok (.aload_n 0, 1) := by decide +kernel
theorem dL_law_984 : decode cL_law 984 = .ok (.iload 4, 2) := by decide +kernel
theorem dL_law_986 : decode cL_law 986 = .ok (.iconst 2, 1) := by decide +kernel
theorem dL_law_987 : decode cL_law 987 = .ok (.iadd, 1) := by decide +kernel
theorem dL_law_988 : decode cL_law 988 = .ok (.iaload, 1) := by decide +kernel
theorem dL_law_989 : decode cL_law 989 = .ok (.invokevirtual 123, 3) := by decide +kernel
theorem dL_law_992 : decode cL_law 992 = .ok (.istore 6, 2) := by decide +kernel
theorem dL_law_994 : decode cL_law 994 = .ok (.aload_n 2, 1) := by decide +kernel
theorem dL_law_995 : decode cL_law 995 = .ok (.invokevirtual 76, 3) := by decide +kernel
theorem dL_law_998 : decode cL_law 998 = .ok (.iload 5, 2) := by decide +kernel
theorem dL_law_1000 : decode cL_law 1000 = .ok (.if_icmp .eq 5, 3) := by decide +kernel
theorem dL_law_1003 : decode cL_law 1003 = .ok (.iconst 0, 1) := by decide +kernel
theorem dL_law_1004 : decode cL_law 1004 = .ok (.ireturn, 1) := by decide +kernel
theorem dL_law_1005 : decode cL_law 1005 = .ok (.iload 5, 2) := by decide +kernel
theorem dL_law_1007 : decode cL_law 1007 = .ok (.ifCond .ne 15, 3) := by decide +kernel
theorem dL_law_1010 : decode cL_law 1010 = .ok (.aload_n 3, 1) := by decide +kernel
theorem dL_law_1011 : decode cL_law 1011 = .ok (.iconst 0, 1) := by decide +kernel
theorem dL_law_1012 : decode cL_law 1012 = .ok (.laload, 1) := by decide +kernel
theorem dL_law_1013 : decode cL_law 1013 = .ok (.iload 6, 2) := by decide +kernel
theorem dL_law_1015 : decode cL_law 1015 = .ok (.i2l, 1) := by decide +kernel
theorem dL_law_1016 : decode cL_law 1016 = .ok (.lcmp, 1) := by decide +kernel
theorem dL_law_1017 : decode cL_law 1017 = .ok (.ifCond .eq 5, 3) := by decide +kernel
theorem dL_law_1020 : decode cL_law 1020 = .ok (.iconst 0, 1) := by decide +kernel
theorem dL_law_1021 : decode cL_law 1021 = .ok (.ireturn, 1) := by decide +kernel
theorem dL_law_1022 : decode cL_law 1022 = .ok (.goto 59, 3) := by decide +kernel
theorem dL_law_1025 : decode cL_law 1025 = .ok (.aload_n 1, 1) := by decide +kernel
theorem dL_law_1026 : decode cL_law 1026 = .ok (.aload_n 0, 1) := by decide +kernel
theorem dL_law_1027 : decode cL_law 1027 = .ok (.iload 4, 2) := by decide +kernel
theorem dL_law_1029 : decode cL_law 1029 = .ok (.iconst 1, 1) := by decide +kernel
theorem dL_law_1030 : decode cL_law 1030 = .ok (.iadd, 1) := by decide +kernel
theorem dL_law_1031 : decode cL_law 1031 = .ok (.iaload, 1) := by decide +kernel
theorem dL_law_1032 : decode cL_law 1032 = .ok (.aload_n 3, 1) := by decide +kernel
theorem dL_law_1033 : decode cL_law 1033 = .ok (.invokestatic 124, 3) := by decide +kernel
theorem dL_law_1036 : decode cL_law 1036 = .ok (.istore 5, 2) := by decide +kernel
theorem dL_law_1038 : decode cL_law 1038 = .ok (.aload_n 2, 1) := by decide +kernel
theorem dL_law_1039 : decode cL_law 1039 = .ok (.aload_n 0, 1) := by decide +kernel
theorem dL_law_1040 : decode cL_law 1040 = .ok (.iload 4, 2) := by decide +kernel
theorem dL_law_1042 : decode cL_law 1042 = .ok (.iconst 1, 1) := by decide +kernel
theorem dL_law_1043 : decode cL_law 1043 = .ok (.iadd, 1) := by decide +kernel
theorem dL_law_1044 : decode cL_law 1044 = .ok (.iaload, 1) := by decide +kernel
theorem dL_law_1045 : decode cL_law 1045 = .ok (.invokevirtual 126, 3) := by decide +kernel
theorem dL_law_1048 : decode cL_law 1048 = .ok (.istore 6, 2) := by decide +kernel
theorem dL_law_1050 : decode cL_law 1050 = .ok (.aload_n 2, 1) := by decide +kernel
theorem dL_law_1051 : decode cL_law 1051 = .ok (.invokevirtual 76, 3) := by decide +kernel
theorem dL_law_1054 : decode cL_law 1054 = .ok (.iload 5, 2) := by decide +kernel
theorem dL_law_1056 : decode cL_law 1056 = .ok (.if_icmp .eq 5, 3) := by decide +kernel
theorem dL_law_1059 : decode cL_law 1059 = .ok (.iconst 0, 1) := by decide +kernel
theorem dL_law_1060 : decode cL_law 1060 = .ok (.ireturn, 1) := by decide +kernel
theorem dL_law_1061 : decode cL_law 1061 = .ok (.iload 5, 2) := by decide +kernel
theorem dL_law_1063 : decode cL_law 1063 = .ok (.ifCond .ne 15, 3) := by decide +kernel
theorem dL_law_1066 : decode cL_law 1066 = .ok (.aload_n 3, 1) := by decide +kernel
theorem dL_law_1067 : decode cL_law 1067 = .ok (.iconst 0, 1) := by decide +kernel
theorem dL_law_1068 : decode cL_law 1068 = .ok (.laload, 1) := by decide +kernel
theorem dL_law_1069 : decode cL_law 1069 = .ok (.iload 6, 2) := by decide +kernel
theorem dL_law_1071 : decode cL_law 1071 = .ok (.i2l, 1) := by decide +kernel
theorem dL_law_1072 : decode cL_law 1072 = .ok (.lcmp, 1) := by decide +kernel
theorem dL_law_1073 : decode cL_law 1073 = .ok (.ifCond .eq 5, 3) := by decide +kernel
theorem dL_law_1076 : decode cL_law 1076 = .ok (.iconst 0, 1) := by decide +kernel
theorem dL_law_1077 : decode cL_law 1077 = .ok (.ireturn, 1) := by decide +kernel
theorem dL_law_1078 : decode cL_law 1078 = .ok (.goto 3, 3) := by decide +kernel
theorem dL_law_1081 : decode cL_law 1081 = .ok (.iinc 4 5, 3) := by decide +kernel
theorem dL_law_1084 : decode cL_law 1084 = .ok (.goto (-1061), 3) := by decide +kernel
theorem dL_law_1087 : decode cL_law 1087 = .ok (.iconst 1, 1) := by decide +kernel
theorem dL_law_1088 : decode cL_law 1088 = .ok (.ireturn, 1) := by decide +kernel
end
section
theorem dJx00060_init_a7421_0 : decode cJx00060_init_a7421 0 = .ok (.aload_n 0, 1) := by decide +kernel
theorem dJx00060_init_a7421_1 : decode cJx00060_init_a7421 1 = .ok (.aload_n 1, 1) := by decide +kernel
theorem dJx00060_init_a7421_2 : decode cJx00060_init_a7421 2 = .ok (.invokespecial 7, 3) := by decide +kernel
theorem dJx00060_init_a7421_5 : decode cJx00060_init_a7421 5 = .ok (.return_, 1) := by decide +kernel
theorem dJ9_max_7cf53_0 : decode cJ9_max_7cf53 0 = .ok (.iload_n 0, 1) := by decide +kernel
theorem dJ9_max_7cf53_1 : decode cJ9_max_7cf53 1 = .ok (.iload_n 1, 1) := by decide +kernel
theorem dJ9_max_7cf53_2 : decode cJ9_max_7cf53 2 = .ok (.if_icmp .lt 7, 3) := by decide +kernel
theorem dJ9_max_7cf53_5 : decode cJ9_max_7cf53 5 = .ok (.iload_n 0, 1) := by decide +kernel
theorem dJ9_max_7cf53_6 : decode cJ9_max_7cf53 6 = .ok (.goto 4, 3) := by decide +kernel
theorem dJ9_max_7cf53_9 : decode cJ9_max_7cf53 9 = .ok (.iload_n 1, 1) := by decide +kernel
theorem dJ9_max_7cf53_10 : decode cJ9_max_7cf53 10 = .ok (.ireturn, 1) := by decide +kernel
theorem dJ9_min_7cf53_0 : decode cJ9_min_7cf53 0 = .ok (.iload_n 0, 1) := by decide +kernel
theorem dJ9_min_7cf53_1 : decode cJ9_min_7cf53 1 = .ok (.iload_n 1, 1) := by decide +kernel
theorem dJ9_min_7cf53_2 : decode cJ9_min_7cf53 2 = .ok (.if_icmp .gt 7, 3) := by decide +kernel
theorem dJ9_min_7cf53_5 : decode cJ9_min_7cf53 5 = .ok (.iload_n 0, 1) := by decide +kernel
theorem dJ9_min_7cf53_6 : decode cJ9_min_7cf53 6 = .ok (.goto 4, 3) := by decide +kernel
theorem dJ9_min_7cf53_9 : decode cJ9_min_7cf53 9 = .ok (.iload_n 1, 1) := by decide +kernel
theorem dJ9_min_7cf53_10 : decode cJ9_min_7cf53 10 = .ok (.ireturn, 1) := by decide +kernel
end
section
/-! ===== the base: one list of words for all methods, worlds of the class and of the reference, rows over natural numbers ===== -/
/-- the tables' words that hold at every later state -/
def tbG : List Cond := lw_tbl.filter goodWord
theorem tb_good : ∀ w ∈ tbG, goodWord w = true := fun w h => (List.mem_filter.mp h).2
theorem tb_sub : ∀ w ∈ tbG, w ∈ lw_tbl := fun w h => (List.mem_filter.mp h).1
theorem tb_in {ws : List Cond} (h : ∀ w ∈ ws, w ∈ tbG) : GoodIn tbG ws := fun w hw => ⟨h w hw, good_of_word (tb_good w (h w hw))⟩
abbrev wT (y : MethodName) (cc : ByteArray) (n : Nat) (ret : Option FieldType) : List Cond := Cond.code y cc n ret :: tbG
theorem tb_T {y : MethodName} {cc : ByteArray} {n : Nat} {ret : Option FieldType} (h : Cond.code y cc n ret ∈ tbG) : GoodIn tbG (wT y cc n ret) := tb_in fun w hw => (List.mem_cons.mp hw).elim (fun e => e ▸ h) id
theorem tb_V {y : MethodName} {cc : ByteArray} {n idx : Nat} {ret : Option FieldType} {own C : String} (h : Cond.code y cc n ret ∈ tbG) (h1 : Cond.methodLink own idx y ∈ tbG) (h2 : Cond.instanceMethod y ∈ tbG) (h3 : Cond.selects C y y ∈ tbG) (h4 : Cond.initialized C ∈ tbG) : GoodIn tbG (wsV own idx C y (wT y cc n ret)) := by
  refine tb_in fun w hw => ?_
  rcases List.mem_append.mp hw with q | q
  · simp only [List.mem_cons, List.not_mem_nil, or_false] at q
    rcases q with rfl | rfl | rfl | rfl
    · exact h1
    · exact h2
    · exact h3
    · exact h4
  · exact (tb_T h w q).1
theorem tb_S {y : MethodName} {cc : ByteArray} {n idx : Nat} {ret : Option FieldType} {own : String} (h : Cond.code y cc n ret ∈ tbG) (h1 : Cond.methodLink own idx y ∈ tbG) (h2 : Cond.static y ∈ tbG) (h4 : Cond.initialized own ∈ tbG) : GoodIn tbG (wsS own idx y (wT y cc n ret)) := by
  refine tb_in fun w hw => ?_
  rcases List.mem_append.mp hw with q | q
  · simp only [List.mem_cons, List.not_mem_nil, or_false] at q
    rcases q with rfl | rfl | rfl
    · exact h1
    · exact h2
    · exact h4
  · exact (tb_T h w q).1
set_option maxRecDepth 100000 in
theorem inX0 : ∀ w ∈ wsX00, w ∈ tbG := by decide +kernel
set_option maxRecDepth 100000 in
theorem inX1 : ∀ w ∈ wsX10, w ∈ tbG := by decide +kernel
set_option maxRecDepth 100000 in
theorem inJx : ∀ w ∈ wsJx000600, w ∈ tbG := by decide +kernel
/-- the classes of the worlds' objects -/
abbrev vcl : List vw_C := [(RX0, TX0, 12), (RX1, TX1, 13)]
abbrev vty (cI cZ cJ : ClassId) : List (ClassId × FieldType) := [(cI, .int), (cZ, .boolean), (cJ, .long)]
/-- the class's cells: a 0 the object, a 1 .. a 9 its rows -/
def vX (cI cZ : ClassId) (a : Nat → Nat) (n m nf : Nat) (sg fo L le sc li ba ca st : Nat → Nat) : va_W :=
  [(a 0, .inr (0, [.ref (a 1), .int (nI n), .ref (a 2), .ref (a 3), .ref (a 4), .ref (a 5), .ref (a 6), .ref (a 7), .int (nI m), .ref (a 8), .int (nI nf), .ref (a 9)])),
   (a 1, .inl (cI, 15, .inl fun k => nI (sg k))), (a 2, .inl (cI, 26, .inl fun k => nI (fo k))), (a 3, .inl (cI, 3750, .inl fun k => nI (L k))),
   (a 4, .inl (cI, 250, .inl fun k => nI (le k))), (a 5, .inl (cI, 250, .inl fun k => nI (sc k))), (a 6, .inl (cI, 250, .inl fun k => nI (li k))),
   (a 7, .inl (cZ, 250, .inl fun k => nI (ba k))), (a 8, .inl (cI, 250, .inl fun k => nI (ca k))), (a 9, .inl (cI, 26, .inl fun k => nI (st k)))]
/-- the reference's cells: a 0 the object, a 1 .. a 9 its rows; th what it calls thrown; wa its own scratch row -/
def vY (cI cZ : ClassId) (a : Nat → Nat) (th n m nf : Nat) (sg fo L le sc li ba ca : Nat → Nat) (wa : Nat → Int32) : va_W :=
  [(a 0, .inr (1, [.int (nI th), .int (nI n), .ref (a 1), .ref (a 2), .int (nI m), .ref (a 3), .ref (a 4), .ref (a 5), .ref (a 6), .ref (a 7), .int (nI nf), .ref (a 8), .ref (a 9)])),
   (a 1, .inl (cI, 15, .inl fun k => nI (sg k))), (a 2, .inl (cI, 26, .inl fun k => nI (fo k))), (a 3, .inl (cI, 3750, .inl fun k => nI (L k))),
   (a 4, .inl (cI, 250, .inl fun k => nI (le k))), (a 5, .inl (cI, 250, .inl fun k => nI (sc k))), (a 6, .inl (cI, 250, .inl fun k => nI (li k))),
   (a 7, .inl (cZ, 250, .inl fun k => nI (ba k))), (a 8, .inl (cI, 250, .inl fun k => nI (ca k))), (a 9, .inl (cI, 26, .inl wa))]
theorem up_nI (f : Nat → Nat) (i x : Nat) : upd (fun k => nI (f k)) i (nI x) = fun k => nI (va_up f i x k) := by
  funext j
  by_cases h : j = i
  · simp [upd, va_up, h]
  · simp [upd, va_up, h]
/-- what a method that only reads is given of its world -/
abbrev rB (dC : Nat → ClassId) (dI : Nat → Nat → Nat) (cI cZ cJ : ClassId) (ws : va_W) : State → Prop := fun U => va_P (dC, dI) vcl ws U.heap ∧ va_K (dC, dI) vcl (vty cI cZ cJ) U
theorem rB_blind {dC : Nat → ClassId} {dI : Nat → Nat → Nat} {cI cZ cJ : ClassId} {ws : va_W} {av : List Value} : FrameBlind (va_Pc av (rB dC dI cI cZ cJ ws)) := fun a U g mk q => ⟨q.1, q.2.1, va_K.moved (u := U) (U := U.calling g mk a) (Vm.Alike.refl U.vm) q.2.2⟩
/-- a method that reads, and answers a number: nothing is changed, nothing is made -/
abbrev rd (l : Launch) (y : MethodName) (cc : ByteArray) (nL : Nat) (ret : Option FieldType) (fr lo : Nat) (av : List Value) (B : State → Prop) (r : Int32) : Prop :=
  Met l y (wT y cc nL ret) ({ frames := fr, cells := 0, slots := 0, locals := lo }) (va_Pc av B) (QcRead r) 0 0 (fun _ => False)
theorem rd_ofW {l : Launch} {y : MethodName} {cc : ByteArray} {nL fr lo : Nat} {ret : Option FieldType} {av : List Value} {B : State → Prop} {r : Int32} (own : String) (hy : plainName y.cls = true) (ho : y.cls = own) (hn : (lg_sl av).length ≤ nL)
    (body : ∀ (p : Program) (e : Env) (s : State) (m : MethodId) (below : List Frame) (meth : Method) (c : Code), CallFix p m c cc nL s av.toArray tbG own → meth.sig.returnType = ret → meth.locks = false → B s → ∀ ls : Array Slot, lv_has ls nL (lv_args 0 av) →
      W p l e ({ frames := fr, cells := 0, slots := 0, locals := lo } : Room) s m av.toArray below meth c s.heap [] 0 0 (MQ below (QcRead r) av.toArray s 0 0 (fun _ => False)) (F0 m 0 ls [])) : rd l y cc nL ret fr lo av B r := by
  refine Met.ofW (cc := cc) (maxL := nL) (ret := ret) hy rfl ?_
  intro p e s m args below meth c s₁ B0 hml hv
  obtain ⟨rfl, hv⟩ := hv
  have hts := atoms_spec (ws := wT y cc nL ret) B0.pre
  have hown : s.vm.findClass own = some m.cls := by rw [← ho]; exact findClass_of_methodNamed B0.named
  have hl := lv_entry av (n := nL) hn
  rw [lg_entry_eq]
  generalize (lg_sl av ++ List.replicate (nL - (lg_sl av).length) Slot.unset).toArray = ls at hl ⊢
  exact body p e s m below meth c ⟨B0.exec, B0.bytes, hml, hown, fun w hw => hts w (List.mem_cons_of_mem _ hw)⟩ B0.returns B0.notSynchronized hv ls hl
section RW
variable {p : Program} {l : Launch} {e : Env} {R : Room} {s : State} {m : MethodId} {args : Array Value} {below : List Frame} {meth : Method} {c : Code} {H : Heap} {locs : List Loc} {cells slots : Nat} {Q : State → Prop}
variable {cc : ByteArray} {pc nL : Nat} {ls : Array Slot} {rest : List Value} {own : String}
/-- the end of a method that only reads -/
theorem rd_ret {v r : Int32} {ty : FieldType} (S : CallFix p m c cc nL s args tbG own) (hr : meth.sig.returnType = some ty) (hlk : meth.locks = false) (hn : narrow ty (.int v) = .int v) (hv : v = r) (hdg : decode cc pc = .ok (.ireturn, 1)) :
    W p l e R s m args below meth c s.heap [] 0 0 (MQ below (QcRead r) args s 0 0 (fun _ => False)) (F0 m pc ls [.int v]) :=
  W.zret (hlocks := hlk) S.1 S.2.1 hr hn (fun t ht _ => ⟨by rw [hv], ht⟩) (fun q h => by cases h) hdg
/-- a call of a method that only reads: static; on an object -/
theorem rd_callS {y : MethodName} {bytes : ByteArray} {maxL index fr lo : Nat} {ret : Option FieldType} {B : State → Prop} {As : List Value} {r : Int32} {st : List Value} (S : CallFix p m c cc nL s args tbG own) (hM : rd l y bytes maxL ret fr lo As B r) (hbl : FrameBlind (va_Pc As B)) (hB : ∀ U : State, U.heap = H → s.WarmedH U.vm → B U)
    (hG : GoodIn tbG (wsS own index y (wT y bytes maxL ret))) (hd : y.cls = own ∧ y.cls ≠ "java/lang/invoke/MethodHandle" ∧ y.cls ≠ "java/lang/invoke/VarHandle" ∧ (parseMethodDescriptor y.desc).map (fun d => d.parameters.length) = some As.length) (hR : fr + 1 ≤ R.frames ∧ 8 + (maxL + 11) + lo ≤ R.locals)
    (hls : ls.size = nL) (hst : st = As.reverse ++ rest) (hW : (rest.map fun v => v.category).sum ≤ 8) (hdg : decode cc pc = .ok (.invokestatic index, 3)) (hf : cells ≤ R.cells ∧ slots ≤ R.slots)
    (kk : W p l e R s m args below meth c H locs cells slots Q (F0 m (pc + 3) ls (.int r :: rest))) : W p l e R s m args below meth c H locs cells slots Q (F0 m pc ls st) := by
  subst hst
  exact W.callR (W.runS (rest := rest) S hM (cwS As.length S.2.2.2.2 hG rfl rfl rfl hd hR) ⟨hbl, fun U hU hW => ⟨rfl, hB U hU hW⟩⟩ rfl rfl hls rfl (lv_room hW) hdg ⟨hf.1, hf.2⟩) kk
theorem rd_callV {y : MethodName} {bytes : ByteArray} {maxL index fr lo b : Nat} {ret : Option FieldType} {B : State → Prop} {As : List Value} {r : Int32} {st : List Value} {C : String} (S : CallFix p m c cc nL s args tbG own) (hM : rd l y bytes maxL ret fr lo (.ref b :: As) B r) (hbl : FrameBlind (va_Pc (.ref b :: As) B)) (hB : ∀ U : State, U.heap = H → s.WarmedH U.vm → B U)
    (hcl : ∃ cellB : Cell, H[b]? = some cellB ∧ cellB.vm.isStatics = false ∧ s.vm.findClass C = some cellB.cls)
    (hG : GoodIn tbG (wsV own index C y (wT y bytes maxL ret))) (hd : y.cls = C ∧ y.cls ≠ "java/lang/invoke/MethodHandle" ∧ y.cls ≠ "java/lang/invoke/VarHandle" ∧ (parseMethodDescriptor y.desc).map (fun d => d.parameters.length) = some As.length) (hR : fr + 1 ≤ R.frames ∧ 8 + (maxL + 11) + lo ≤ R.locals)
    (hls : ls.size = nL) (hst : st = As.reverse ++ .ref b :: rest) (hW : (rest.map fun v => v.category).sum ≤ 8) (hdg : decode cc pc = .ok (.invokevirtual index, 3)) (hf : cells ≤ R.cells ∧ slots ≤ R.slots)
    (kk : W p l e R s m args below meth c H locs cells slots Q (F0 m (pc + 3) ls (.int r :: rest))) : W p l e R s m args below meth c H locs cells slots Q (F0 m pc ls st) := by
  subst hst
  exact W.callR (W.runV (rest := rest) S hM (cwV As.length S.2.2.2.2 hG rfl rfl rfl hd hR) ⟨hbl, hcl, fun U hU hW => ⟨rfl, hB U hU hW⟩⟩ rfl rfl hls rfl (lv_room hW) hdg ⟨hf.1, hf.2⟩) kk
/-- a place of a row of natural numbers -/
theorem n_iald {D : va_G} {cl : List vw_C} {ws : va_W} {tys : List (ClassId × FieldType)} {a : Nat} (S : CallFix p m c cc nL s args tbG own) (hK : va_K D cl tys s) (hP : va_P D cl ws H) (q0 t0 : Nat) {cA : ClassId} {n : Nat} {f : Nat → Nat} (ha : ws[q0]? = some (a, .inl (cA, n, .inl fun k => nI (f k)))) (ht : tys[t0]? = some (cA, .int)) (hdg : decode cc pc = .ok (.iaload, 1)) {j : Nat} (hn : n < 2 ^ 31) (hj : j < n)
    (kk : W p l e R s m args below meth c H locs cells slots Q (F0 m (pc + 1) ls (.int (nI (f j)) :: rest))) : W p l e R s m args below meth c H locs cells slots Q (F0 m pc ls (.int (nI j) :: .ref a :: rest)) := by
  refine va_iald S.1 S.2.1 hK hP q0 t0 ha ht (vp_in_nI hj hn) hdg ?_
  show W p l e R s m args below meth c H locs cells slots Q (F0 m (pc + 1) ls (.int (nI (f (nI j).toNatClampNeg)) :: rest))
  rw [nI_clamp (Nat.lt_trans hj hn)]
  exact kk
theorem n_zald {D : va_G} {cl : List vw_C} {ws : va_W} {tys : List (ClassId × FieldType)} {a : Nat} (S : CallFix p m c cc nL s args tbG own) (hK : va_K D cl tys s) (hP : va_P D cl ws H) (q0 t0 : Nat) {cA : ClassId} {n : Nat} {f : Nat → Nat} (ha : ws[q0]? = some (a, .inl (cA, n, .inl fun k => nI (f k)))) (ht : tys[t0]? = some (cA, .boolean)) (hdg : decode cc pc = .ok (.baload, 1)) {j : Nat} (hn : n < 2 ^ 31) (hj : j < n)
    (kk : W p l e R s m args below meth c H locs cells slots Q (F0 m (pc + 1) ls (.int (nI (f j)) :: rest))) : W p l e R s m args below meth c H locs cells slots Q (F0 m pc ls (.int (nI j) :: .ref a :: rest)) := by
  refine va_zald S.1 S.2.1 hK hP q0 t0 ha ht (vp_in_nI hj hn) hdg ?_
  show W p l e R s m args below meth c H locs cells slots Q (F0 m (pc + 1) ls (.int (nI (f (nI j).toNatClampNeg)) :: rest))
  rw [nI_clamp (Nat.lt_trans hj hn)]
  exact kk
theorem n_iadd {x y : Nat} (S : CallFix p m c cc nL s args tbG own) (hdg : decode cc pc = .ok (.iadd, 1))
    (kk : W p l e R s m args below meth c H locs cells slots Q (F0 m (pc + 1) ls (.int (nI (x + y)) :: rest))) : W p l e R s m args below meth c H locs cells slots Q (F0 m pc ls (.int (nI y) :: .int (nI x) :: rest)) := by
  refine lv_iadd S.1 S.2.1 hdg ?_
  rw [nI_add]
  exact kk
theorem n_imul {x y : Nat} (S : CallFix p m c cc nL s args tbG own) (hdg : decode cc pc = .ok (.imul, 1))
    (kk : W p l e R s m args below meth c H locs cells slots Q (F0 m (pc + 1) ls (.int (nI (x * y)) :: rest))) : W p l e R s m args below meth c H locs cells slots Q (F0 m pc ls (.int (nI y) :: .int (nI x) :: rest)) := by
  refine lv_imul S.1 S.2.1 hdg ?_
  rw [pk_mul]
  exact kk
theorem n_isub {x y : Nat} (S : CallFix p m c cc nL s args tbG own) (hdg : decode cc pc = .ok (.isub, 1)) (h : y ≤ x)
    (kk : W p l e R s m args below meth c H locs cells slots Q (F0 m (pc + 1) ls (.int (nI (x - y)) :: rest))) : W p l e R s m args below meth c H locs cells slots Q (F0 m pc ls (.int (nI y) :: .int (nI x) :: rest)) := by
  refine lv_isub S.1 S.2.1 hdg ?_
  rw [pk_sub h]
  exact kk
theorem n_ne {a b : Nat} (h : a ≠ b) (ha : a < 2 ^ 31) (hb : b < 2 ^ 31) : ¬ nI a = nI b := fun q => h ((nI_eq ha hb).mp q)
theorem n_icmp_ge {x y tgt : Nat} {off : Int} (S : CallFix p m c cc nL s args tbG own) (hdg : decode cc pc = .ok (.if_icmp .ge off, 3)) (ht : (pc : Int) + off = (tgt : Int)) (hx : x < 2 ^ 31) (hy : y < 2 ^ 31)
    (kt : y ≤ x → W p l e R s m args below meth c H locs cells slots Q (F0 m tgt ls rest)) (kf : x < y → W p l e R s m args below meth c H locs cells slots Q (F0 m (pc + 3) ls rest)) : W p l e R s m args below meth c H locs cells slots Q (F0 m pc ls (.int (nI y) :: .int (nI x) :: rest)) :=
  lv_icmp_ge S.1 S.2.1 hdg ht (fun h => kt ((nI_leI hy hx).mp h)) (fun h => kf (Nat.not_le.mp fun q => h ((nI_leI hy hx).mpr q)))
theorem n_icmp_gt {x y tgt : Nat} {off : Int} (S : CallFix p m c cc nL s args tbG own) (hdg : decode cc pc = .ok (.if_icmp .gt off, 3)) (ht : (pc : Int) + off = (tgt : Int)) (hx : x < 2 ^ 31) (hy : y < 2 ^ 31)
    (kt : y < x → W p l e R s m args below meth c H locs cells slots Q (F0 m tgt ls rest)) (kf : x ≤ y → W p l e R s m args below meth c H locs cells slots Q (F0 m (pc + 3) ls rest)) : W p l e R s m args below meth c H locs cells slots Q (F0 m pc ls (.int (nI y) :: .int (nI x) :: rest)) :=
  lv_icmp_gt S.1 S.2.1 hdg ht (fun h => kt ((nI_ltI hy hx).mp h)) (fun h => kf (Nat.not_lt.mp fun q => h ((nI_ltI hy hx).mpr q)))
theorem n_icmp_lt {x y tgt : Nat} {off : Int} (S : CallFix p m c cc nL s args tbG own) (hdg : decode cc pc = .ok (.if_icmp .lt off, 3)) (ht : (pc : Int) + off = (tgt : Int)) (hx : x < 2 ^ 31) (hy : y < 2 ^ 31)
    (kt : x < y → W p l e R s m args below meth c H locs cells slots Q (F0 m tgt ls rest)) (kf : y ≤ x → W p l e R s m args below meth c H locs cells slots Q (F0 m (pc + 3) ls rest)) : W p l e R s m args below meth c H locs cells slots Q (F0 m pc ls (.int (nI y) :: .int (nI x) :: rest)) :=
  lv_icmp_lt S.1 S.2.1 hdg ht (fun h => kt ((nI_ltI hx hy).mp h)) (fun h => kf (Nat.not_lt.mp fun q => h ((nI_ltI hx hy).mpr q)))
theorem n_icmp_le {x y tgt : Nat} {off : Int} (S : CallFix p m c cc nL s args tbG own) (hdg : decode cc pc = .ok (.if_icmp .le off, 3)) (ht : (pc : Int) + off = (tgt : Int)) (hx : x < 2 ^ 31) (hy : y < 2 ^ 31)
    (kt : x ≤ y → W p l e R s m args below meth c H locs cells slots Q (F0 m tgt ls rest)) (kf : y < x → W p l e R s m args below meth c H locs cells slots Q (F0 m (pc + 3) ls rest)) : W p l e R s m args below meth c H locs cells slots Q (F0 m pc ls (.int (nI y) :: .int (nI x) :: rest)) :=
  lv_icmp_le S.1 S.2.1 hdg ht (fun h => kt ((nI_leI hx hy).mp h)) (fun h => kf (Nat.not_le.mp fun q => h ((nI_leI hx hy).mpr q)))
theorem n_icmp_eq {x y tgt : Nat} {off : Int} (S : CallFix p m c cc nL s args tbG own) (hdg : decode cc pc = .ok (.if_icmp .eq off, 3)) (ht : (pc : Int) + off = (tgt : Int)) (hx : x < 2 ^ 31) (hy : y < 2 ^ 31)
    (kt : x = y → W p l e R s m args below meth c H locs cells slots Q (F0 m tgt ls rest)) (kf : x ≠ y → W p l e R s m args below meth c H locs cells slots Q (F0 m (pc + 3) ls rest)) : W p l e R s m args below meth c H locs cells slots Q (F0 m pc ls (.int (nI y) :: .int (nI x) :: rest)) :=
  lv_icmp_eq S.1 S.2.1 hdg ht (fun h => kt (by first | exact (nI_eq hx hy).mp h | exact ((nI_eq hy hx).mp h).symm)) (fun h => kf (fun q => h (by rw [q])))
theorem n_icmp_ne {x y tgt : Nat} {off : Int} (S : CallFix p m c cc nL s args tbG own) (hdg : decode cc pc = .ok (.if_icmp .ne off, 3)) (ht : (pc : Int) + off = (tgt : Int)) (hx : x < 2 ^ 31) (hy : y < 2 ^ 31)
    (kt : x ≠ y → W p l e R s m args below meth c H locs cells slots Q (F0 m tgt ls rest)) (kf : x = y → W p l e R s m args below meth c H locs cells slots Q (F0 m (pc + 3) ls rest)) : W p l e R s m args below meth c H locs cells slots Q (F0 m pc ls (.int (nI y) :: .int (nI x) :: rest)) := by
  by_cases q : x = y
  · subst q
    exact lv_icmp_ne S.1 S.2.1 hdg ht (fun h => absurd rfl h) (fun _ => kf rfl)
  · exact lv_icmp_ne S.1 S.2.1 hdg ht (fun _ => kt q) (fun h => absurd h (by first | exact n_ne q hx hy | exact fun z => n_ne q hx hy z.symm))
theorem n_if_eq {x tgt : Nat} {off : Int} (S : CallFix p m c cc nL s args tbG own) (hdg : decode cc pc = .ok (.ifCond .eq off, 3)) (ht : (pc : Int) + off = (tgt : Int)) (hx : x < 2 ^ 31)
    (kt : x = 0 → W p l e R s m args below meth c H locs cells slots Q (F0 m tgt ls rest)) (kf : x ≠ 0 → W p l e R s m args below meth c H locs cells slots Q (F0 m (pc + 3) ls rest)) : W p l e R s m args below meth c H locs cells slots Q (F0 m pc ls (.int (nI x) :: rest)) := by
  by_cases q : x = 0
  · subst q
    exact lv_if_eq S.1 S.2.1 hdg ht (fun _ => kt rfl) (fun h => absurd nI_0 h)
  · exact lv_if_eq S.1 S.2.1 hdg ht (fun h => absurd h (nI_ne0 (Nat.pos_of_ne_zero q) hx)) (fun _ => kf q)
theorem n_if_ne {x tgt : Nat} {off : Int} (S : CallFix p m c cc nL s args tbG own) (hdg : decode cc pc = .ok (.ifCond .ne off, 3)) (ht : (pc : Int) + off = (tgt : Int)) (hx : x < 2 ^ 31)
    (kt : x ≠ 0 → W p l e R s m args below meth c H locs cells slots Q (F0 m tgt ls rest)) (kf : x = 0 → W p l e R s m args below meth c H locs cells slots Q (F0 m (pc + 3) ls rest)) : W p l e R s m args below meth c H locs cells slots Q (F0 m pc ls (.int (nI x) :: rest)) := by
  by_cases q : x = 0
  · subst q
    exact lv_if_ne S.1 S.2.1 hdg ht (fun h => absurd nI_0 h) (fun _ => kf rfl)
  · exact lv_if_ne S.1 S.2.1 hdg ht (fun _ => kt q) (fun h => absurd h (nI_ne0 (Nat.pos_of_ne_zero q) hx))
theorem n_if_le {x tgt : Nat} {off : Int} (S : CallFix p m c cc nL s args tbG own) (hdg : decode cc pc = .ok (.ifCond .le off, 3)) (ht : (pc : Int) + off = (tgt : Int)) (hx : x < 2 ^ 31)
    (kt : x = 0 → W p l e R s m args below meth c H locs cells slots Q (F0 m tgt ls rest)) (kf : 0 < x → W p l e R s m args below meth c H locs cells slots Q (F0 m (pc + 3) ls rest)) : W p l e R s m args below meth c H locs cells slots Q (F0 m pc ls (.int (nI x) :: rest)) := by
  by_cases q : x = 0
  · subst q
    exact lv_if_le S.1 S.2.1 hdg ht (fun _ => kt rfl) (fun h => absurd (by decide) h)
  · exact lv_if_le S.1 S.2.1 hdg ht (fun h => absurd h (nI_nle (Nat.pos_of_ne_zero q) hx)) (fun _ => kf (Nat.pos_of_ne_zero q))
theorem n_if_lt {x tgt : Nat} {off : Int} (S : CallFix p m c cc nL s args tbG own) (hdg : decode cc pc = .ok (.ifCond .lt off, 3)) (ht : (pc : Int) + off = (tgt : Int)) (hx : x < 2 ^ 31)
    (kf : W p l e R s m args below meth c H locs cells slots Q (F0 m (pc + 3) ls rest)) : W p l e R s m args below meth c H locs cells slots Q (F0 m pc ls (.int (nI x) :: rest)) :=
  lv_if_lt S.1 S.2.1 hdg ht (fun h => absurd h (nI_pos hx)) (fun _ => kf)
theorem n_iinc {i k x : Nat} {lv lv' : List (Nat × Value)} (S : CallFix p m c cc nL s args tbG own) (hdg : decode cc pc = .ok (.iinc i 1, 3)) (h : lv_has ls nL lv) (hk : lv[k]? = some (i, .int (nI x))) (hn : i < nL) (hl : (i, Value.int (nI (x + 1))) :: lv.filter (fun q => !(q.1 == i) && !(q.1 + 1 == i && q.2.category == 2)) = lv')
    (kk : ∀ ls : Array Slot, lv_has ls nL lv' → W p l e R s m args below meth c H locs cells slots Q (F0 m (pc + 3) ls rest)) : W p l e R s m args below meth c H locs cells slots Q (F0 m pc ls rest) :=
  lv_iinc (v := nI (x + 1)) S.1 S.2.1 hdg h hk (by rw [nI_succ]; rfl) hn hl kk
end RW
end
section
/-! ===== rows of fields, words of calls: by program ===== -/
theorem tbX0 : ∀ w ∈ wsX00, w ∈ tbG := by decide +kernel
theorem tbX1 : ∀ w ∈ wsX10, w ∈ tbG := by decide +kernel
section FR
variable {p : Program} {l : Launch} {e : Env} {R : Room} {s : State} {m : MethodId} {args : Array Value} {below : List Frame} {meth : Method} {c : Code} {H H0 : Heap} {locs : List Loc} {cells slots : Nat} {Q : State → Prop}
variable {cc : ByteArray} {pc nL : Nat} {ls : Array Slot} {rest : List Value} {dC : Nat → ClassId} {dI : Nat → Nat → Nat} {tys : List (ClassId × FieldType)} {ws : va_W} {fs : List Value} {a0 : Nat} {v : Value} {A : Nat → Prop}
theorem lkX0_candidateCount : Cond.fieldLink RX0 42 "WordLists" "candidateCount" "I" ∈ tbG := by decide +kernel
theorem fX0_candidateCount (S : CallFix p m c cc nL s args tbG RX0) (hK : va_K (dC, dI) vcl tys s) (hP : va_P (dC, dI) vcl ws H) (he : ws[0]? = some (a0, .inr (0, fs))) (hv : fs[10]? = some v) (hdg : decode cc pc = .ok (.getfield 42, 3))
    (kk : W p l e R s m args below meth c H locs cells slots Q (F0 m (pc + 3) ls (v :: rest))) : W p l e R s m args below meth c H locs cells slots Q (F0 m pc ls (.ref a0 :: rest)) :=
  va_get (D := (dC, dI)) (ci := 0) (C := RX0) (T := TX0) (N := 12) S.1 S.2.1 S.2.2.2.2 tbX0 S.2.2.2.1 hK hP 0 he rfl 10 (by decide) (S.2.2.2.2 _ lkX0_candidateCount) (fun _ h9 => h9) hv hdg kk
theorem pX0_candidateCount {z : Int32} (S : CallFix p m c cc nL s args tbG RX0) (hK : va_K (dC, dI) vcl tys s) (hP : va_P (dC, dI) vcl ws H) (hD : va_D A ws) (hS : va_S A H0 H locs) (he : ws[0]? = some (a0, .inr (0, fs))) (hl : 10 < fs.length) (hdg : decode cc pc = .ok (.putfield 42, 3))
    (kk : ∀ (H1 : Heap) (locs1 : List Loc), va_P (dC, dI) vcl (ws.set 0 (a0, .inr (0, fs.set 10 (.int z)))) H1 → va_D A (ws.set 0 (a0, .inr (0, fs.set 10 (.int z)))) → va_S A H0 H1 locs1 → W p l e R s m args below meth c H1 locs1 cells slots Q (F0 m (pc + 3) ls rest)) : W p l e R s m args below meth c H locs cells slots Q (F0 m pc ls (.int z :: .ref a0 :: rest)) :=
  va_put (D := (dC, dI)) (ci := 0) (ty := .int) (C := RX0) (T := TX0) (N := 12) S.1 S.2.1 S.2.2.2.2 tbX0 tyX0 tyX0_ok nmX0 S.2.2.2.1 hK hP hD hS 0 he rfl 10 (by decide) (S.2.2.2.2 _ lkX0_candidateCount) (fun _ h9 => h9) rfl (by decide +kernel) rfl rfl hl hdg kk
theorem lkX0_candidates : Cond.fieldLink RX0 39 "WordLists" "candidates" "[I" ∈ tbG := by decide +kernel
theorem fX0_candidates (S : CallFix p m c cc nL s args tbG RX0) (hK : va_K (dC, dI) vcl tys s) (hP : va_P (dC, dI) vcl ws H) (he : ws[0]? = some (a0, .inr (0, fs))) (hv : fs[9]? = some v) (hdg : decode cc pc = .ok (.getfield 39, 3))
    (kk : W p l e R s m args below meth c H locs cells slots Q (F0 m (pc + 3) ls (v :: rest))) : W p l e R s m args below meth c H locs cells slots Q (F0 m pc ls (.ref a0 :: rest)) :=
  va_get (D := (dC, dI)) (ci := 0) (C := RX0) (T := TX0) (N := 12) S.1 S.2.1 S.2.2.2.2 tbX0 S.2.2.2.1 hK hP 0 he rfl 9 (by decide) (S.2.2.2.2 _ lkX0_candidates) (fun _ h9 => h9) hv hdg kk
theorem lkX0_folding : Cond.fieldLink RX0 17 "WordLists" "folding" "[I" ∈ tbG := by decide +kernel
theorem fX0_folding (S : CallFix p m c cc nL s args tbG RX0) (hK : va_K (dC, dI) vcl tys s) (hP : va_P (dC, dI) vcl ws H) (he : ws[0]? = some (a0, .inr (0, fs))) (hv : fs[2]? = some v) (hdg : decode cc pc = .ok (.getfield 17, 3))
    (kk : W p l e R s m args below meth c H locs cells slots Q (F0 m (pc + 3) ls (v :: rest))) : W p l e R s m args below meth c H locs cells slots Q (F0 m pc ls (.ref a0 :: rest)) :=
  va_get (D := (dC, dI)) (ci := 0) (C := RX0) (T := TX0) (N := 12) S.1 S.2.1 S.2.2.2.2 tbX0 S.2.2.2.1 hK hP 0 he rfl 2 (by decide) (S.2.2.2.2 _ lkX0_folding) (fun _ h9 => h9) hv hdg kk
theorem lkX0_signCount : Cond.fieldLink RX0 13 "WordLists" "signCount" "I" ∈ tbG := by decide +kernel
theorem fX0_signCount (S : CallFix p m c cc nL s args tbG RX0) (hK : va_K (dC, dI) vcl tys s) (hP : va_P (dC, dI) vcl ws H) (he : ws[0]? = some (a0, .inr (0, fs))) (hv : fs[1]? = some v) (hdg : decode cc pc = .ok (.getfield 13, 3))
    (kk : W p l e R s m args below meth c H locs cells slots Q (F0 m (pc + 3) ls (v :: rest))) : W p l e R s m args below meth c H locs cells slots Q (F0 m pc ls (.ref a0 :: rest)) :=
  va_get (D := (dC, dI)) (ci := 0) (C := RX0) (T := TX0) (N := 12) S.1 S.2.1 S.2.2.2.2 tbX0 S.2.2.2.1 hK hP 0 he rfl 1 (by decide) (S.2.2.2.2 _ lkX0_signCount) (fun _ h9 => h9) hv hdg kk
theorem pX0_signCount {z : Int32} (S : CallFix p m c cc nL s args tbG RX0) (hK : va_K (dC, dI) vcl tys s) (hP : va_P (dC, dI) vcl ws H) (hD : va_D A ws) (hS : va_S A H0 H locs) (he : ws[0]? = some (a0, .inr (0, fs))) (hl : 1 < fs.length) (hdg : decode cc pc = .ok (.putfield 13, 3))
    (kk : ∀ (H1 : Heap) (locs1 : List Loc), va_P (dC, dI) vcl (ws.set 0 (a0, .inr (0, fs.set 1 (.int z)))) H1 → va_D A (ws.set 0 (a0, .inr (0, fs.set 1 (.int z)))) → va_S A H0 H1 locs1 → W p l e R s m args below meth c H1 locs1 cells slots Q (F0 m (pc + 3) ls rest)) : W p l e R s m args below meth c H locs cells slots Q (F0 m pc ls (.int z :: .ref a0 :: rest)) :=
  va_put (D := (dC, dI)) (ci := 0) (ty := .int) (C := RX0) (T := TX0) (N := 12) S.1 S.2.1 S.2.2.2.2 tbX0 tyX0 tyX0_ok nmX0 S.2.2.2.1 hK hP hD hS 0 he rfl 1 (by decide) (S.2.2.2.2 _ lkX0_signCount) (fun _ h9 => h9) rfl (by decide +kernel) rfl rfl hl hdg kk
theorem lkX0_signs : Cond.fieldLink RX0 9 "WordLists" "signs" "[I" ∈ tbG := by decide +kernel
theorem fX0_signs (S : CallFix p m c cc nL s args tbG RX0) (hK : va_K (dC, dI) vcl tys s) (hP : va_P (dC, dI) vcl ws H) (he : ws[0]? = some (a0, .inr (0, fs))) (hv : fs[0]? = some v) (hdg : decode cc pc = .ok (.getfield 9, 3))
    (kk : W p l e R s m args below meth c H locs cells slots Q (F0 m (pc + 3) ls (v :: rest))) : W p l e R s m args below meth c H locs cells slots Q (F0 m pc ls (.ref a0 :: rest)) :=
  va_get (D := (dC, dI)) (ci := 0) (C := RX0) (T := TX0) (N := 12) S.1 S.2.1 S.2.2.2.2 tbX0 S.2.2.2.1 hK hP 0 he rfl 0 (by decide) (S.2.2.2.2 _ lkX0_signs) (fun _ h9 => h9) hv hdg kk
theorem lkX0_stock : Cond.fieldLink RX0 45 "WordLists" "stock" "[I" ∈ tbG := by decide +kernel
theorem fX0_stock (S : CallFix p m c cc nL s args tbG RX0) (hK : va_K (dC, dI) vcl tys s) (hP : va_P (dC, dI) vcl ws H) (he : ws[0]? = some (a0, .inr (0, fs))) (hv : fs[11]? = some v) (hdg : decode cc pc = .ok (.getfield 45, 3))
    (kk : W p l e R s m args below meth c H locs cells slots Q (F0 m (pc + 3) ls (v :: rest))) : W p l e R s m args below meth c H locs cells slots Q (F0 m pc ls (.ref a0 :: rest)) :=
  va_get (D := (dC, dI)) (ci := 0) (C := RX0) (T := TX0) (N := 12) S.1 S.2.1 S.2.2.2.2 tbX0 S.2.2.2.1 hK hP 0 he rfl 11 (by decide) (S.2.2.2.2 _ lkX0_stock) (fun _ h9 => h9) hv hdg kk
theorem lkX0_wordBarred : Cond.fieldLink RX0 32 "WordLists" "wordBarred" "[Z" ∈ tbG := by decide +kernel
theorem fX0_wordBarred (S : CallFix p m c cc nL s args tbG RX0) (hK : va_K (dC, dI) vcl tys s) (hP : va_P (dC, dI) vcl ws H) (he : ws[0]? = some (a0, .inr (0, fs))) (hv : fs[7]? = some v) (hdg : decode cc pc = .ok (.getfield 32, 3))
    (kk : W p l e R s m args below meth c H locs cells slots Q (F0 m (pc + 3) ls (v :: rest))) : W p l e R s m args below meth c H locs cells slots Q (F0 m pc ls (.ref a0 :: rest)) :=
  va_get (D := (dC, dI)) (ci := 0) (C := RX0) (T := TX0) (N := 12) S.1 S.2.1 S.2.2.2.2 tbX0 S.2.2.2.1 hK hP 0 he rfl 7 (by decide) (S.2.2.2.2 _ lkX0_wordBarred) (fun _ h9 => h9) hv hdg kk
theorem lkX0_wordCount : Cond.fieldLink RX0 36 "WordLists" "wordCount" "I" ∈ tbG := by decide +kernel
theorem fX0_wordCount (S : CallFix p m c cc nL s args tbG RX0) (hK : va_K (dC, dI) vcl tys s) (hP : va_P (dC, dI) vcl ws H) (he : ws[0]? = some (a0, .inr (0, fs))) (hv : fs[8]? = some v) (hdg : decode cc pc = .ok (.getfield 36, 3))
    (kk : W p l e R s m args below meth c H locs cells slots Q (F0 m (pc + 3) ls (v :: rest))) : W p l e R s m args below meth c H locs cells slots Q (F0 m pc ls (.ref a0 :: rest)) :=
  va_get (D := (dC, dI)) (ci := 0) (C := RX0) (T := TX0) (N := 12) S.1 S.2.1 S.2.2.2.2 tbX0 S.2.2.2.1 hK hP 0 he rfl 8 (by decide) (S.2.2.2.2 _ lkX0_wordCount) (fun _ h9 => h9) hv hdg kk
theorem pX0_wordCount {z : Int32} (S : CallFix p m c cc nL s args tbG RX0) (hK : va_K (dC, dI) vcl tys s) (hP : va_P (dC, dI) vcl ws H) (hD : va_D A ws) (hS : va_S A H0 H locs) (he : ws[0]? = some (a0, .inr (0, fs))) (hl : 8 < fs.length) (hdg : decode cc pc = .ok (.putfield 36, 3))
    (kk : ∀ (H1 : Heap) (locs1 : List Loc), va_P (dC, dI) vcl (ws.set 0 (a0, .inr (0, fs.set 8 (.int z)))) H1 → va_D A (ws.set 0 (a0, .inr (0, fs.set 8 (.int z)))) → va_S A H0 H1 locs1 → W p l e R s m args below meth c H1 locs1 cells slots Q (F0 m (pc + 3) ls rest)) : W p l e R s m args below meth c H locs cells slots Q (F0 m pc ls (.int z :: .ref a0 :: rest)) :=
  va_put (D := (dC, dI)) (ci := 0) (ty := .int) (C := RX0) (T := TX0) (N := 12) S.1 S.2.1 S.2.2.2.2 tbX0 tyX0 tyX0_ok nmX0 S.2.2.2.1 hK hP hD hS 0 he rfl 8 (by decide) (S.2.2.2.2 _ lkX0_wordCount) (fun _ h9 => h9) rfl (by decide +kernel) rfl rfl hl hdg kk
theorem lkX0_wordLengths : Cond.fieldLink RX0 23 "WordLists" "wordLengths" "[I" ∈ tbG := by decide +kernel
theorem fX0_wordLengths (S : CallFix p m c cc nL s args tbG RX0) (hK : va_K (dC, dI) vcl tys s) (hP : va_P (dC, dI) vcl ws H) (he : ws[0]? = some (a0, .inr (0, fs))) (hv : fs[4]? = some v) (hdg : decode cc pc = .ok (.getfield 23, 3))
    (kk : W p l e R s m args below meth c H locs cells slots Q (F0 m (pc + 3) ls (v :: rest))) : W p l e R s m args below meth c H locs cells slots Q (F0 m pc ls (.ref a0 :: rest)) :=
  va_get (D := (dC, dI)) (ci := 0) (C := RX0) (T := TX0) (N := 12) S.1 S.2.1 S.2.2.2.2 tbX0 S.2.2.2.1 hK hP 0 he rfl 4 (by decide) (S.2.2.2.2 _ lkX0_wordLengths) (fun _ h9 => h9) hv hdg kk
theorem lkX0_wordLetters : Cond.fieldLink RX0 20 "WordLists" "wordLetters" "[I" ∈ tbG := by decide +kernel
theorem fX0_wordLetters (S : CallFix p m c cc nL s args tbG RX0) (hK : va_K (dC, dI) vcl tys s) (hP : va_P (dC, dI) vcl ws H) (he : ws[0]? = some (a0, .inr (0, fs))) (hv : fs[3]? = some v) (hdg : decode cc pc = .ok (.getfield 20, 3))
    (kk : W p l e R s m args below meth c H locs cells slots Q (F0 m (pc + 3) ls (v :: rest))) : W p l e R s m args below meth c H locs cells slots Q (F0 m pc ls (.ref a0 :: rest)) :=
  va_get (D := (dC, dI)) (ci := 0) (C := RX0) (T := TX0) (N := 12) S.1 S.2.1 S.2.2.2.2 tbX0 S.2.2.2.1 hK hP 0 he rfl 3 (by decide) (S.2.2.2.2 _ lkX0_wordLetters) (fun _ h9 => h9) hv hdg kk
theorem lkX0_wordListBits : Cond.fieldLink RX0 29 "WordLists" "wordListBits" "[I" ∈ tbG := by decide +kernel
theorem fX0_wordListBits (S : CallFix p m c cc nL s args tbG RX0) (hK : va_K (dC, dI) vcl tys s) (hP : va_P (dC, dI) vcl ws H) (he : ws[0]? = some (a0, .inr (0, fs))) (hv : fs[6]? = some v) (hdg : decode cc pc = .ok (.getfield 29, 3))
    (kk : W p l e R s m args below meth c H locs cells slots Q (F0 m (pc + 3) ls (v :: rest))) : W p l e R s m args below meth c H locs cells slots Q (F0 m pc ls (.ref a0 :: rest)) :=
  va_get (D := (dC, dI)) (ci := 0) (C := RX0) (T := TX0) (N := 12) S.1 S.2.1 S.2.2.2.2 tbX0 S.2.2.2.1 hK hP 0 he rfl 6 (by decide) (S.2.2.2.2 _ lkX0_wordListBits) (fun _ h9 => h9) hv hdg kk
theorem lkX0_wordScores : Cond.fieldLink RX0 26 "WordLists" "wordScores" "[I" ∈ tbG := by decide +kernel
theorem fX0_wordScores (S : CallFix p m c cc nL s args tbG RX0) (hK : va_K (dC, dI) vcl tys s) (hP : va_P (dC, dI) vcl ws H) (he : ws[0]? = some (a0, .inr (0, fs))) (hv : fs[5]? = some v) (hdg : decode cc pc = .ok (.getfield 26, 3))
    (kk : W p l e R s m args below meth c H locs cells slots Q (F0 m (pc + 3) ls (v :: rest))) : W p l e R s m args below meth c H locs cells slots Q (F0 m pc ls (.ref a0 :: rest)) :=
  va_get (D := (dC, dI)) (ci := 0) (C := RX0) (T := TX0) (N := 12) S.1 S.2.1 S.2.2.2.2 tbX0 S.2.2.2.1 hK hP 0 he rfl 5 (by decide) (S.2.2.2.2 _ lkX0_wordScores) (fun _ h9 => h9) hv hdg kk
theorem lkX1_barred : Cond.fieldLink RX1 28 "WordListsModel" "barred" "[Z" ∈ tbG := by decide +kernel
theorem fX1_barred (S : CallFix p m c cc nL s args tbG RX1) (hK : va_K (dC, dI) vcl tys s) (hP : va_P (dC, dI) vcl ws H) (he : ws[0]? = some (a0, .inr (1, fs))) (hv : fs[9]? = some v) (hdg : decode cc pc = .ok (.getfield 28, 3))
    (kk : W p l e R s m args below meth c H locs cells slots Q (F0 m (pc + 3) ls (v :: rest))) : W p l e R s m args below meth c H locs cells slots Q (F0 m pc ls (.ref a0 :: rest)) :=
  va_get (D := (dC, dI)) (ci := 1) (C := RX1) (T := TX1) (N := 13) S.1 S.2.1 S.2.2.2.2 tbX1 S.2.2.2.1 hK hP 0 he rfl 9 (by decide) (S.2.2.2.2 _ lkX1_barred) (fun _ h9 => h9) hv hdg kk
theorem lkX1_candidates : Cond.fieldLink RX1 32 "WordListsModel" "candidates" "[I" ∈ tbG := by decide +kernel
theorem fX1_candidates (S : CallFix p m c cc nL s args tbG RX1) (hK : va_K (dC, dI) vcl tys s) (hP : va_P (dC, dI) vcl ws H) (he : ws[0]? = some (a0, .inr (1, fs))) (hv : fs[11]? = some v) (hdg : decode cc pc = .ok (.getfield 32, 3))
    (kk : W p l e R s m args below meth c H locs cells slots Q (F0 m (pc + 3) ls (v :: rest))) : W p l e R s m args below meth c H locs cells slots Q (F0 m pc ls (.ref a0 :: rest)) :=
  va_get (D := (dC, dI)) (ci := 1) (C := RX1) (T := TX1) (N := 13) S.1 S.2.1 S.2.2.2.2 tbX1 S.2.2.2.1 hK hP 0 he rfl 11 (by decide) (S.2.2.2.2 _ lkX1_candidates) (fun _ h9 => h9) hv hdg kk
theorem lkX1_folds : Cond.fieldLink RX1 13 "WordListsModel" "folds" "[I" ∈ tbG := by decide +kernel
theorem fX1_folds (S : CallFix p m c cc nL s args tbG RX1) (hK : va_K (dC, dI) vcl tys s) (hP : va_P (dC, dI) vcl ws H) (he : ws[0]? = some (a0, .inr (1, fs))) (hv : fs[3]? = some v) (hdg : decode cc pc = .ok (.getfield 13, 3))
    (kk : W p l e R s m args below meth c H locs cells slots Q (F0 m (pc + 3) ls (v :: rest))) : W p l e R s m args below meth c H locs cells slots Q (F0 m pc ls (.ref a0 :: rest)) :=
  va_get (D := (dC, dI)) (ci := 1) (C := RX1) (T := TX1) (N := 13) S.1 S.2.1 S.2.2.2.2 tbX1 S.2.2.2.1 hK hP 0 he rfl 3 (by decide) (S.2.2.2.2 _ lkX1_folds) (fun _ h9 => h9) hv hdg kk
theorem lkX1_found : Cond.fieldLink RX1 81 "WordListsModel" "found" "I" ∈ tbG := by decide +kernel
theorem fX1_found (S : CallFix p m c cc nL s args tbG RX1) (hK : va_K (dC, dI) vcl tys s) (hP : va_P (dC, dI) vcl ws H) (he : ws[0]? = some (a0, .inr (1, fs))) (hv : fs[10]? = some v) (hdg : decode cc pc = .ok (.getfield 81, 3))
    (kk : W p l e R s m args below meth c H locs cells slots Q (F0 m (pc + 3) ls (v :: rest))) : W p l e R s m args below meth c H locs cells slots Q (F0 m pc ls (.ref a0 :: rest)) :=
  va_get (D := (dC, dI)) (ci := 1) (C := RX1) (T := TX1) (N := 13) S.1 S.2.1 S.2.2.2.2 tbX1 S.2.2.2.1 hK hP 0 he rfl 10 (by decide) (S.2.2.2.2 _ lkX1_found) (fun _ h9 => h9) hv hdg kk
theorem pX1_found {z : Int32} (S : CallFix p m c cc nL s args tbG RX1) (hK : va_K (dC, dI) vcl tys s) (hP : va_P (dC, dI) vcl ws H) (hD : va_D A ws) (hS : va_S A H0 H locs) (he : ws[0]? = some (a0, .inr (1, fs))) (hl : 10 < fs.length) (hdg : decode cc pc = .ok (.putfield 81, 3))
    (kk : ∀ (H1 : Heap) (locs1 : List Loc), va_P (dC, dI) vcl (ws.set 0 (a0, .inr (1, fs.set 10 (.int z)))) H1 → va_D A (ws.set 0 (a0, .inr (1, fs.set 10 (.int z)))) → va_S A H0 H1 locs1 → W p l e R s m args below meth c H1 locs1 cells slots Q (F0 m (pc + 3) ls rest)) : W p l e R s m args below meth c H locs cells slots Q (F0 m pc ls (.int z :: .ref a0 :: rest)) :=
  va_put (D := (dC, dI)) (ci := 1) (ty := .int) (C := RX1) (T := TX1) (N := 13) S.1 S.2.1 S.2.2.2.2 tbX1 tyX1 tyX1_ok nmX1 S.2.2.2.1 hK hP hD hS 0 he rfl 10 (by decide) (S.2.2.2.2 _ lkX1_found) (fun _ h9 => h9) rfl (by decide +kernel) rfl rfl hl hdg kk
theorem lkX1_lengths : Cond.fieldLink RX1 19 "WordListsModel" "lengths" "[I" ∈ tbG := by decide +kernel
theorem fX1_lengths (S : CallFix p m c cc nL s args tbG RX1) (hK : va_K (dC, dI) vcl tys s) (hP : va_P (dC, dI) vcl ws H) (he : ws[0]? = some (a0, .inr (1, fs))) (hv : fs[6]? = some v) (hdg : decode cc pc = .ok (.getfield 19, 3))
    (kk : W p l e R s m args below meth c H locs cells slots Q (F0 m (pc + 3) ls (v :: rest))) : W p l e R s m args below meth c H locs cells slots Q (F0 m pc ls (.ref a0 :: rest)) :=
  va_get (D := (dC, dI)) (ci := 1) (C := RX1) (T := TX1) (N := 13) S.1 S.2.1 S.2.2.2.2 tbX1 S.2.2.2.1 hK hP 0 he rfl 6 (by decide) (S.2.2.2.2 _ lkX1_lengths) (fun _ h9 => h9) hv hdg kk
theorem lkX1_letters : Cond.fieldLink RX1 16 "WordListsModel" "letters" "[I" ∈ tbG := by decide +kernel
theorem fX1_letters (S : CallFix p m c cc nL s args tbG RX1) (hK : va_K (dC, dI) vcl tys s) (hP : va_P (dC, dI) vcl ws H) (he : ws[0]? = some (a0, .inr (1, fs))) (hv : fs[5]? = some v) (hdg : decode cc pc = .ok (.getfield 16, 3))
    (kk : W p l e R s m args below meth c H locs cells slots Q (F0 m (pc + 3) ls (v :: rest))) : W p l e R s m args below meth c H locs cells slots Q (F0 m pc ls (.ref a0 :: rest)) :=
  va_get (D := (dC, dI)) (ci := 1) (C := RX1) (T := TX1) (N := 13) S.1 S.2.1 S.2.2.2.2 tbX1 S.2.2.2.1 hK hP 0 he rfl 5 (by decide) (S.2.2.2.2 _ lkX1_letters) (fun _ h9 => h9) hv hdg kk
theorem lkX1_lists : Cond.fieldLink RX1 25 "WordListsModel" "lists" "[I" ∈ tbG := by decide +kernel
theorem fX1_lists (S : CallFix p m c cc nL s args tbG RX1) (hK : va_K (dC, dI) vcl tys s) (hP : va_P (dC, dI) vcl ws H) (he : ws[0]? = some (a0, .inr (1, fs))) (hv : fs[8]? = some v) (hdg : decode cc pc = .ok (.getfield 25, 3))
    (kk : W p l e R s m args below meth c H locs cells slots Q (F0 m (pc + 3) ls (v :: rest))) : W p l e R s m args below meth c H locs cells slots Q (F0 m pc ls (.ref a0 :: rest)) :=
  va_get (D := (dC, dI)) (ci := 1) (C := RX1) (T := TX1) (N := 13) S.1 S.2.1 S.2.2.2.2 tbX1 S.2.2.2.1 hK hP 0 he rfl 8 (by decide) (S.2.2.2.2 _ lkX1_lists) (fun _ h9 => h9) hv hdg kk
theorem lkX1_many : Cond.fieldLink RX1 42 "WordListsModel" "many" "I" ∈ tbG := by decide +kernel
theorem fX1_many (S : CallFix p m c cc nL s args tbG RX1) (hK : va_K (dC, dI) vcl tys s) (hP : va_P (dC, dI) vcl ws H) (he : ws[0]? = some (a0, .inr (1, fs))) (hv : fs[4]? = some v) (hdg : decode cc pc = .ok (.getfield 42, 3))
    (kk : W p l e R s m args below meth c H locs cells slots Q (F0 m (pc + 3) ls (v :: rest))) : W p l e R s m args below meth c H locs cells slots Q (F0 m pc ls (.ref a0 :: rest)) :=
  va_get (D := (dC, dI)) (ci := 1) (C := RX1) (T := TX1) (N := 13) S.1 S.2.1 S.2.2.2.2 tbX1 S.2.2.2.1 hK hP 0 he rfl 4 (by decide) (S.2.2.2.2 _ lkX1_many) (fun _ h9 => h9) hv hdg kk
theorem pX1_many {z : Int32} (S : CallFix p m c cc nL s args tbG RX1) (hK : va_K (dC, dI) vcl tys s) (hP : va_P (dC, dI) vcl ws H) (hD : va_D A ws) (hS : va_S A H0 H locs) (he : ws[0]? = some (a0, .inr (1, fs))) (hl : 4 < fs.length) (hdg : decode cc pc = .ok (.putfield 42, 3))
    (kk : ∀ (H1 : Heap) (locs1 : List Loc), va_P (dC, dI) vcl (ws.set 0 (a0, .inr (1, fs.set 4 (.int z)))) H1 → va_D A (ws.set 0 (a0, .inr (1, fs.set 4 (.int z)))) → va_S A H0 H1 locs1 → W p l e R s m args below meth c H1 locs1 cells slots Q (F0 m (pc + 3) ls rest)) : W p l e R s m args below meth c H locs cells slots Q (F0 m pc ls (.int z :: .ref a0 :: rest)) :=
  va_put (D := (dC, dI)) (ci := 1) (ty := .int) (C := RX1) (T := TX1) (N := 13) S.1 S.2.1 S.2.2.2.2 tbX1 tyX1 tyX1_ok nmX1 S.2.2.2.1 hK hP hD hS 0 he rfl 4 (by decide) (S.2.2.2.2 _ lkX1_many) (fun _ h9 => h9) rfl (by decide +kernel) rfl rfl hl hdg kk
theorem lkX1_row : Cond.fieldLink RX1 7 "WordListsModel" "row" "[I" ∈ tbG := by decide +kernel
theorem fX1_row (S : CallFix p m c cc nL s args tbG RX1) (hK : va_K (dC, dI) vcl tys s) (hP : va_P (dC, dI) vcl ws H) (he : ws[0]? = some (a0, .inr (1, fs))) (hv : fs[2]? = some v) (hdg : decode cc pc = .ok (.getfield 7, 3))
    (kk : W p l e R s m args below meth c H locs cells slots Q (F0 m (pc + 3) ls (v :: rest))) : W p l e R s m args below meth c H locs cells slots Q (F0 m pc ls (.ref a0 :: rest)) :=
  va_get (D := (dC, dI)) (ci := 1) (C := RX1) (T := TX1) (N := 13) S.1 S.2.1 S.2.2.2.2 tbX1 S.2.2.2.1 hK hP 0 he rfl 2 (by decide) (S.2.2.2.2 _ lkX1_row) (fun _ h9 => h9) hv hdg kk
theorem lkX1_scores : Cond.fieldLink RX1 22 "WordListsModel" "scores" "[I" ∈ tbG := by decide +kernel
theorem fX1_scores (S : CallFix p m c cc nL s args tbG RX1) (hK : va_K (dC, dI) vcl tys s) (hP : va_P (dC, dI) vcl ws H) (he : ws[0]? = some (a0, .inr (1, fs))) (hv : fs[7]? = some v) (hdg : decode cc pc = .ok (.getfield 22, 3))
    (kk : W p l e R s m args below meth c H locs cells slots Q (F0 m (pc + 3) ls (v :: rest))) : W p l e R s m args below meth c H locs cells slots Q (F0 m pc ls (.ref a0 :: rest)) :=
  va_get (D := (dC, dI)) (ci := 1) (C := RX1) (T := TX1) (N := 13) S.1 S.2.1 S.2.2.2.2 tbX1 S.2.2.2.1 hK hP 0 he rfl 7 (by decide) (S.2.2.2.2 _ lkX1_scores) (fun _ h9 => h9) hv hdg kk
theorem lkX1_size : Cond.fieldLink RX1 49 "WordListsModel" "size" "I" ∈ tbG := by decide +kernel
theorem fX1_size (S : CallFix p m c cc nL s args tbG RX1) (hK : va_K (dC, dI) vcl tys s) (hP : va_P (dC, dI) vcl ws H) (he : ws[0]? = some (a0, .inr (1, fs))) (hv : fs[1]? = some v) (hdg : decode cc pc = .ok (.getfield 49, 3))
    (kk : W p l e R s m args below meth c H locs cells slots Q (F0 m (pc + 3) ls (v :: rest))) : W p l e R s m args below meth c H locs cells slots Q (F0 m pc ls (.ref a0 :: rest)) :=
  va_get (D := (dC, dI)) (ci := 1) (C := RX1) (T := TX1) (N := 13) S.1 S.2.1 S.2.2.2.2 tbX1 S.2.2.2.1 hK hP 0 he rfl 1 (by decide) (S.2.2.2.2 _ lkX1_size) (fun _ h9 => h9) hv hdg kk
theorem pX1_size {z : Int32} (S : CallFix p m c cc nL s args tbG RX1) (hK : va_K (dC, dI) vcl tys s) (hP : va_P (dC, dI) vcl ws H) (hD : va_D A ws) (hS : va_S A H0 H locs) (he : ws[0]? = some (a0, .inr (1, fs))) (hl : 1 < fs.length) (hdg : decode cc pc = .ok (.putfield 49, 3))
    (kk : ∀ (H1 : Heap) (locs1 : List Loc), va_P (dC, dI) vcl (ws.set 0 (a0, .inr (1, fs.set 1 (.int z)))) H1 → va_D A (ws.set 0 (a0, .inr (1, fs.set 1 (.int z)))) → va_S A H0 H1 locs1 → W p l e R s m args below meth c H1 locs1 cells slots Q (F0 m (pc + 3) ls rest)) : W p l e R s m args below meth c H locs cells slots Q (F0 m pc ls (.int z :: .ref a0 :: rest)) :=
  va_put (D := (dC, dI)) (ci := 1) (ty := .int) (C := RX1) (T := TX1) (N := 13) S.1 S.2.1 S.2.2.2.2 tbX1 tyX1 tyX1_ok nmX1 S.2.2.2.1 hK hP hD hS 0 he rfl 1 (by decide) (S.2.2.2.2 _ lkX1_size) (fun _ h9 => h9) rfl (by decide +kernel) rfl rfl hl hdg kk
theorem lkX1_thrown : Cond.fieldLink RX1 38 "WordListsModel" "thrown" "I" ∈ tbG := by decide +kernel
theorem fX1_thrown (S : CallFix p m c cc nL s args tbG RX1) (hK : va_K (dC, dI) vcl tys s) (hP : va_P (dC, dI) vcl ws H) (he : ws[0]? = some (a0, .inr (1, fs))) (hv : fs[0]? = some v) (hdg : decode cc pc = .ok (.getfield 38, 3))
    (kk : W p l e R s m args below meth c H locs cells slots Q (F0 m (pc + 3) ls (v :: rest))) : W p l e R s m args below meth c H locs cells slots Q (F0 m pc ls (.ref a0 :: rest)) :=
  va_get (D := (dC, dI)) (ci := 1) (C := RX1) (T := TX1) (N := 13) S.1 S.2.1 S.2.2.2.2 tbX1 S.2.2.2.1 hK hP 0 he rfl 0 (by decide) (S.2.2.2.2 _ lkX1_thrown) (fun _ h9 => h9) hv hdg kk
theorem pX1_thrown {z : Int32} (S : CallFix p m c cc nL s args tbG RX1) (hK : va_K (dC, dI) vcl tys s) (hP : va_P (dC, dI) vcl ws H) (hD : va_D A ws) (hS : va_S A H0 H locs) (he : ws[0]? = some (a0, .inr (1, fs))) (hl : 0 < fs.length) (hdg : decode cc pc = .ok (.putfield 38, 3))
    (kk : ∀ (H1 : Heap) (locs1 : List Loc), va_P (dC, dI) vcl (ws.set 0 (a0, .inr (1, fs.set 0 (.int z)))) H1 → va_D A (ws.set 0 (a0, .inr (1, fs.set 0 (.int z)))) → va_S A H0 H1 locs1 → W p l e R s m args below meth c H1 locs1 cells slots Q (F0 m (pc + 3) ls rest)) : W p l e R s m args below meth c H locs cells slots Q (F0 m pc ls (.int z :: .ref a0 :: rest)) :=
  va_put (D := (dC, dI)) (ci := 1) (ty := .int) (C := RX1) (T := TX1) (N := 13) S.1 S.2.1 S.2.2.2.2 tbX1 tyX1 tyX1_ok nmX1 S.2.2.2.1 hK hP hD hS 0 he rfl 0 (by decide) (S.2.2.2.2 _ lkX1_thrown) (fun _ h9 => h9) rfl (by decide +kernel) rfl rfl hl hdg kk
theorem lkX1_wanted : Cond.fieldLink RX1 35 "WordListsModel" "wanted" "[I" ∈ tbG := by decide +kernel
theorem fX1_wanted (S : CallFix p m c cc nL s args tbG RX1) (hK : va_K (dC, dI) vcl tys s) (hP : va_P (dC, dI) vcl ws H) (he : ws[0]? = some (a0, .inr (1, fs))) (hv : fs[12]? = some v) (hdg : decode cc pc = .ok (.getfield 35, 3))
    (kk : W p l e R s m args below meth c H locs cells slots Q (F0 m (pc + 3) ls (v :: rest))) : W p l e R s m args below meth c H locs cells slots Q (F0 m pc ls (.ref a0 :: rest)) :=
  va_get (D := (dC, dI)) (ci := 1) (C := RX1) (T := TX1) (N := 13) S.1 S.2.1 S.2.2.2.2 tbX1 S.2.2.2.1 hK hP 0 he rfl 12 (by decide) (S.2.2.2.2 _ lkX1_wanted) (fun _ h9 => h9) hv hdg kk
end FR
theorem gX0_48 : GoodIn tbG (wsS RX0 48 yX0_isLetter (wT yX0_isLetter cX0_isLetter 1 (some .boolean))) := tb_S (by decide +kernel) (by decide +kernel) (by decide +kernel) (by decide +kernel)
theorem gX0_52 : GoodIn tbG (wsS RX0 52 yX0_needLetter (wT yX0_needLetter cX0_needLetter 1 none)) := tb_S (by decide +kernel) (by decide +kernel) (by decide +kernel) (by decide +kernel)
theorem gX0_56 : GoodIn tbG (wsS RX0 56 yX0_needList (wT yX0_needList cX0_needList 1 none)) := tb_S (by decide +kernel) (by decide +kernel) (by decide +kernel) (by decide +kernel)
theorem gX0_59 : GoodIn tbG (wsV RX0 59 RX0 yX0_rowHasBlank (wT yX0_rowHasBlank cX0_rowHasBlank 2 (some .boolean))) := tb_V (by decide +kernel) (by decide +kernel) (by decide +kernel) (by decide +kernel) (by decide +kernel)
theorem gX0_63 : GoodIn tbG (wsV RX0 63 RX0 yX0_wordOfRow (wT yX0_wordOfRow cX0_wordOfRow 2 (some .int))) := tb_V (by decide +kernel) (by decide +kernel) (by decide +kernel) (by decide +kernel) (by decide +kernel)
theorem gX0_67 : GoodIn tbG (wsV RX0 67 RX0 yX0_addWordOfRow (wT yX0_addWordOfRow cX0_addWordOfRow 3 (some .int))) := tb_V (by decide +kernel) (by decide +kernel) (by decide +kernel) (by decide +kernel) (by decide +kernel)
theorem gX0_76 : GoodIn tbG (wsV RX0 76 RX0 yX0_fits (wT yX0_fits cX0_fits 2 (some .boolean))) := tb_V (by decide +kernel) (by decide +kernel) (by decide +kernel) (by decide +kernel) (by decide +kernel)
theorem gX0_79 : GoodIn tbG (wsV RX0 79 RX0 yX0_isOf (wT yX0_isOf cX0_isOf 3 (some .boolean))) := tb_V (by decide +kernel) (by decide +kernel) (by decide +kernel) (by decide +kernel) (by decide +kernel)
theorem gX0_83 : GoodIn tbG (wsS RX0 83 yX0_isChosen (wT yX0_isChosen cX0_isChosen 3 (some .boolean))) := tb_S (by decide +kernel) (by decide +kernel) (by decide +kernel) (by decide +kernel)
theorem gX0_87 : GoodIn tbG (wsV RX0 87 RX0 yX0_isFreeIn (wT yX0_isFreeIn cX0_isFreeIn 3 (some .boolean))) := tb_V (by decide +kernel) (by decide +kernel) (by decide +kernel) (by decide +kernel) (by decide +kernel)
theorem gX0_90 : GoodIn tbG (wsV RX0 90 RX0 yX0_addCandidate (wT yX0_addCandidate cX0_addCandidate 3 none)) := tb_V (by decide +kernel) (by decide +kernel) (by decide +kernel) (by decide +kernel) (by decide +kernel)
theorem gX0_100 : GoodIn tbG (wsV RX0 100 RX0 yX0_letterOrNone (wT yX0_letterOrNone cX0_letterOrNone 3 (some .int))) := tb_V (by decide +kernel) (by decide +kernel) (by decide +kernel) (by decide +kernel) (by decide +kernel)
theorem gX0_103 : GoodIn tbG (wsV RX0 103 RX0 yX0_hasRowAt (wT yX0_hasRowAt cX0_hasRowAt 5 (some .boolean))) := tb_V (by decide +kernel) (by decide +kernel) (by decide +kernel) (by decide +kernel) (by decide +kernel)
theorem gX0_106 : GoodIn tbG (wsV RX0 106 RX0 yX0_isRowInSomeOrder (wT yX0_isRowInSomeOrder cX0_isRowInSomeOrder 5 (some .boolean))) := tb_V (by decide +kernel) (by decide +kernel) (by decide +kernel) (by decide +kernel) (by decide +kernel)
theorem gX0_109 : GoodIn tbG (wsV RX0 109 RX0 yX0_timesInWord (wT yX0_timesInWord cX0_timesInWord 5 (some .int))) := tb_V (by decide +kernel) (by decide +kernel) (by decide +kernel) (by decide +kernel) (by decide +kernel)
theorem gX0_112 : GoodIn tbG (wsV RX0 112 RX0 yX0_needWord (wT yX0_needWord cX0_needWord 2 none)) := tb_V (by decide +kernel) (by decide +kernel) (by decide +kernel) (by decide +kernel) (by decide +kernel)
theorem gX0_115 : GoodIn tbG (wsV RX0 115 RX0 yX0_sharedBeginning (wT yX0_sharedBeginning cX0_sharedBeginning 5 (some .int))) := tb_V (by decide +kernel) (by decide +kernel) (by decide +kernel) (by decide +kernel) (by decide +kernel)
theorem gX0_127 : GoodIn tbG (wsV RX0 127 RX0 yX0_foldedSign (wT yX0_foldedSign cX0_foldedSign 3 (some .int))) := tb_V (by decide +kernel) (by decide +kernel) (by decide +kernel) (by decide +kernel) (by decide +kernel)
theorem gX0_131 : GoodIn tbG (wsV RX0 131 RX0 yX0_isAhead (wT yX0_isAhead cX0_isAhead 4 (some .boolean))) := tb_V (by decide +kernel) (by decide +kernel) (by decide +kernel) (by decide +kernel) (by decide +kernel)
theorem gX0_134 : GoodIn tbG (wsV RX0 134 RX0 yX0_fillStock (wT yX0_fillStock cX0_fillStock 4 (some .int))) := tb_V (by decide +kernel) (by decide +kernel) (by decide +kernel) (by decide +kernel) (by decide +kernel)
theorem gX1_45 : GoodIn tbG (wsS RX1 45 yX1_isLetter (wT yX1_isLetter cX1_isLetter 1 (some .boolean))) := tb_S (by decide +kernel) (by decide +kernel) (by decide +kernel) (by decide +kernel)
theorem gX1_52 : GoodIn tbG (wsV RX1 52 RX1 yX1_fails (wT yX1_fails cX1_fails 2 (some .boolean))) := tb_V (by decide +kernel) (by decide +kernel) (by decide +kernel) (by decide +kernel) (by decide +kernel)
theorem gX1_56 : GoodIn tbG (wsV RX1 56 RX1 yX1_signAt (wT yX1_signAt cX1_signAt 2 (some .int))) := tb_V (by decide +kernel) (by decide +kernel) (by decide +kernel) (by decide +kernel) (by decide +kernel)
theorem gX1_60 : GoodIn tbG (wsV RX1 60 RX1 yX1_letterAt (wT yX1_letterAt cX1_letterAt 3 (some .int))) := tb_V (by decide +kernel) (by decide +kernel) (by decide +kernel) (by decide +kernel) (by decide +kernel)
theorem gX1_64 : GoodIn tbG (wsV RX1 64 RX1 yX1_isAt (wT yX1_isAt cX1_isAt 4 (some .boolean))) := tb_V (by decide +kernel) (by decide +kernel) (by decide +kernel) (by decide +kernel) (by decide +kernel)
theorem gX1_68 : GoodIn tbG (wsS RX1 68 yX1_isList (wT yX1_isList cX1_isList 1 (some .boolean))) := tb_S (by decide +kernel) (by decide +kernel) (by decide +kernel) (by decide +kernel)
theorem gX1_71 : GoodIn tbG (wsV RX1 71 RX1 yX1_hasBlank (wT yX1_hasBlank cX1_hasBlank 2 (some .boolean))) := tb_V (by decide +kernel) (by decide +kernel) (by decide +kernel) (by decide +kernel) (by decide +kernel)
theorem gX1_75 : GoodIn tbG (wsV RX1 75 RX1 yX1_fits (wT yX1_fits cX1_fits 2 (some .boolean))) := tb_V (by decide +kernel) (by decide +kernel) (by decide +kernel) (by decide +kernel) (by decide +kernel)
theorem gX1_78 : GoodIn tbG (wsV RX1 78 RX1 yX1_isIn (wT yX1_isIn cX1_isIn 3 (some .boolean))) := tb_V (by decide +kernel) (by decide +kernel) (by decide +kernel) (by decide +kernel) (by decide +kernel)
theorem gX1_84 : GoodIn tbG (wsV RX1 84 RX1 yX1_isAhead (wT yX1_isAhead cX1_isAhead 4 (some .boolean))) := tb_V (by decide +kernel) (by decide +kernel) (by decide +kernel) (by decide +kernel) (by decide +kernel)
theorem gX1_87 : GoodIn tbG (wsV RX1 87 RX1 yX1_count (wT yX1_count cX1_count 5 (some .int))) := tb_V (by decide +kernel) (by decide +kernel) (by decide +kernel) (by decide +kernel) (by decide +kernel)
theorem gX1_91 : GoodIn tbG (wsV RX1 91 RX1 yX1_isMixed (wT yX1_isMixed cX1_isMixed 3 (some .boolean))) := tb_V (by decide +kernel) (by decide +kernel) (by decide +kernel) (by decide +kernel) (by decide +kernel)
theorem gX1_94 : GoodIn tbG (wsV RX1 94 RX1 yX1_isWord (wT yX1_isWord cX1_isWord 2 (some .boolean))) := tb_V (by decide +kernel) (by decide +kernel) (by decide +kernel) (by decide +kernel) (by decide +kernel)
theorem gL_7 : GoodIn tbG (wsV RL 7 RX0 yX0_fold (wT yX0_fold cX0_fold 3 none)) := tb_V (by decide +kernel) (by decide +kernel) (by decide +kernel) (by decide +kernel) (by decide +kernel)
theorem gL_15 : GoodIn tbG (wsV RL 15 RX0 yX0_enter (wT yX0_enter cX0_enter 4 (some .int))) := tb_V (by decide +kernel) (by decide +kernel) (by decide +kernel) (by decide +kernel) (by decide +kernel)
theorem gL_19 : GoodIn tbG (wsV RL 19 RX0 yX0_merge (wT yX0_merge cX0_merge 7 (some .int))) := tb_V (by decide +kernel) (by decide +kernel) (by decide +kernel) (by decide +kernel) (by decide +kernel)
theorem gL_23 : GoodIn tbG (wsV RL 23 RX0 yX0_seek (wT yX0_seek cX0_seek 3 (some .int))) := tb_V (by decide +kernel) (by decide +kernel) (by decide +kernel) (by decide +kernel) (by decide +kernel)
theorem gL_27 : GoodIn tbG (wsV RL 27 RX0 yX0_candidate (wT yX0_candidate cX0_candidate 2 (some .int))) := tb_V (by decide +kernel) (by decide +kernel) (by decide +kernel) (by decide +kernel) (by decide +kernel)
theorem gL_30 : GoodIn tbG (wsV RL 30 RX0 yX0_at (wT yX0_at cX0_at 5 (some .int))) := tb_V (by decide +kernel) (by decide +kernel) (by decide +kernel) (by decide +kernel) (by decide +kernel)
theorem gL_33 : GoodIn tbG (wsV RL 33 RX0 yX0_begins (wT yX0_begins cX0_begins 4 (some .int))) := tb_V (by decide +kernel) (by decide +kernel) (by decide +kernel) (by decide +kernel) (by decide +kernel)
theorem gL_36 : GoodIn tbG (wsV RL 36 RX0 yX0_ends (wT yX0_ends cX0_ends 4 (some .int))) := tb_V (by decide +kernel) (by decide +kernel) (by decide +kernel) (by decide +kernel) (by decide +kernel)
theorem gL_39 : GoodIn tbG (wsV RL 39 RX0 yX0_mixed (wT yX0_mixed cX0_mixed 4 (some .int))) := tb_V (by decide +kernel) (by decide +kernel) (by decide +kernel) (by decide +kernel) (by decide +kernel)
theorem gL_42 : GoodIn tbG (wsV RL 42 RX0 yX0_many (wT yX0_many cX0_many 5 (some .int))) := tb_V (by decide +kernel) (by decide +kernel) (by decide +kernel) (by decide +kernel) (by decide +kernel)
theorem gL_45 : GoodIn tbG (wsV RL 45 RX0 yX0_letters (wT yX0_letters cX0_letters 5 (some .int))) := tb_V (by decide +kernel) (by decide +kernel) (by decide +kernel) (by decide +kernel) (by decide +kernel)
theorem gL_48 : GoodIn tbG (wsV RL 48 RX0 yX0_letter (wT yX0_letter cX0_letter 3 (some .int))) := tb_V (by decide +kernel) (by decide +kernel) (by decide +kernel) (by decide +kernel) (by decide +kernel)
theorem gL_51 : GoodIn tbG (wsV RL 51 RX0 yX0_tell (wT yX0_tell cX0_tell 3 (some .int))) := tb_V (by decide +kernel) (by decide +kernel) (by decide +kernel) (by decide +kernel) (by decide +kernel)
theorem gL_54 : GoodIn tbG (wsV RL 54 RX0 yX0_common (wT yX0_common cX0_common 5 (some .int))) := tb_V (by decide +kernel) (by decide +kernel) (by decide +kernel) (by decide +kernel) (by decide +kernel)
theorem gL_61 : GoodIn tbG (wsV RL 61 RX0 yX0_sign (wT yX0_sign cX0_sign 2 (some .boolean))) := tb_V (by decide +kernel) (by decide +kernel) (by decide +kernel) (by decide +kernel) (by decide +kernel)
theorem gL_65 : GoodIn tbG (wsV RL 65 RX1 yX1_sign (wT yX1_sign cX1_sign 2 (some .boolean))) := tb_V (by decide +kernel) (by decide +kernel) (by decide +kernel) (by decide +kernel) (by decide +kernel)
theorem gL_66 : GoodIn tbG (wsV RL 66 RX0 yX0_clear (wT yX0_clear cX0_clear 1 none)) := tb_V (by decide +kernel) (by decide +kernel) (by decide +kernel) (by decide +kernel) (by decide +kernel)
theorem gL_69 : GoodIn tbG (wsV RL 69 RX1 yX1_clear (wT yX1_clear cX1_clear 1 none)) := tb_V (by decide +kernel) (by decide +kernel) (by decide +kernel) (by decide +kernel) (by decide +kernel)
theorem gL_75 : GoodIn tbG (wsV RL 75 RX1 yX1_fold (wT yX1_fold cX1_fold 3 none)) := tb_V (by decide +kernel) (by decide +kernel) (by decide +kernel) (by decide +kernel) (by decide +kernel)
theorem gL_76 : GoodIn tbG (wsV RL 76 RX1 yX1_thrown (wT yX1_thrown cX1_thrown 1 (some .int))) := tb_V (by decide +kernel) (by decide +kernel) (by decide +kernel) (by decide +kernel) (by decide +kernel)
theorem gL_83 : GoodIn tbG (wsV RL 83 RX1 yX1_enter (wT yX1_enter cX1_enter 4 (some .int))) := tb_V (by decide +kernel) (by decide +kernel) (by decide +kernel) (by decide +kernel) (by decide +kernel)
theorem gL_84 : GoodIn tbG (wsV RL 84 RX0 yX0_bar (wT yX0_bar cX0_bar 4 (some .int))) := tb_V (by decide +kernel) (by decide +kernel) (by decide +kernel) (by decide +kernel) (by decide +kernel)
theorem gL_88 : GoodIn tbG (wsV RL 88 RX1 yX1_bar (wT yX1_bar cX1_bar 4 (some .int))) := tb_V (by decide +kernel) (by decide +kernel) (by decide +kernel) (by decide +kernel) (by decide +kernel)
theorem gL_92 : GoodIn tbG (wsV RL 92 RX1 yX1_merge (wT yX1_merge cX1_merge 10 (some .int))) := tb_V (by decide +kernel) (by decide +kernel) (by decide +kernel) (by decide +kernel) (by decide +kernel)
theorem gL_96 : GoodIn tbG (wsV RL 96 RX1 yX1_seek (wT yX1_seek cX1_seek 4 (some .int))) := tb_V (by decide +kernel) (by decide +kernel) (by decide +kernel) (by decide +kernel) (by decide +kernel)
theorem gL_99 : GoodIn tbG (wsV RL 99 RX1 yX1_candidate (wT yX1_candidate cX1_candidate 2 (some .int))) := tb_V (by decide +kernel) (by decide +kernel) (by decide +kernel) (by decide +kernel) (by decide +kernel)
theorem gL_102 : GoodIn tbG (wsV RL 102 RX1 yX1_at (wT yX1_at cX1_at 5 (some .int))) := tb_V (by decide +kernel) (by decide +kernel) (by decide +kernel) (by decide +kernel) (by decide +kernel)
theorem gL_105 : GoodIn tbG (wsV RL 105 RX1 yX1_begins (wT yX1_begins cX1_begins 2 (some .int))) := tb_V (by decide +kernel) (by decide +kernel) (by decide +kernel) (by decide +kernel) (by decide +kernel)
theorem gL_108 : GoodIn tbG (wsV RL 108 RX1 yX1_ends (wT yX1_ends cX1_ends 2 (some .int))) := tb_V (by decide +kernel) (by decide +kernel) (by decide +kernel) (by decide +kernel) (by decide +kernel)
theorem gL_111 : GoodIn tbG (wsV RL 111 RX1 yX1_mixed (wT yX1_mixed cX1_mixed 4 (some .int))) := tb_V (by decide +kernel) (by decide +kernel) (by decide +kernel) (by decide +kernel) (by decide +kernel)
theorem gL_114 : GoodIn tbG (wsV RL 114 RX1 yX1_many (wT yX1_many cX1_many 5 (some .int))) := tb_V (by decide +kernel) (by decide +kernel) (by decide +kernel) (by decide +kernel) (by decide +kernel)
theorem gL_117 : GoodIn tbG (wsV RL 117 RX1 yX1_letters (wT yX1_letters cX1_letters 6 (some .int))) := tb_V (by decide +kernel) (by decide +kernel) (by decide +kernel) (by decide +kernel) (by decide +kernel)
theorem gL_120 : GoodIn tbG (wsV RL 120 RX1 yX1_letter (wT yX1_letter cX1_letter 3 (some .int))) := tb_V (by decide +kernel) (by decide +kernel) (by decide +kernel) (by decide +kernel) (by decide +kernel)
theorem gL_123 : GoodIn tbG (wsV RL 123 RX1 yX1_tell (wT yX1_tell cX1_tell 3 (some .int))) := tb_V (by decide +kernel) (by decide +kernel) (by decide +kernel) (by decide +kernel) (by decide +kernel)
theorem gL_126 : GoodIn tbG (wsV RL 126 RX1 yX1_common (wT yX1_common cX1_common 6 (some .int))) := tb_V (by decide +kernel) (by decide +kernel) (by decide +kernel) (by decide +kernel) (by decide +kernel)
section BR
variable {p : Program} {l : Launch} {e : Env} {R : Room} {s : State} {m : MethodId} {args : Array Value} {below : List Frame} {meth : Method} {c : Code} {H : Heap} {locs : List Loc} {cells slots : Nat} {Q : State → Prop}
variable {cc : ByteArray} {pc nL : Nat} {ls : Array Slot} {rest : List Value} {own : String}
theorem n_bif_eq {b : Bool} {tgt : Nat} {off : Int} (S : CallFix p m c cc nL s args tbG own) (hdg : decode cc pc = .ok (.ifCond .eq off, 3)) (ht : (pc : Int) + off = (tgt : Int))
    (kt : b = false → W p l e R s m args below meth c H locs cells slots Q (F0 m tgt ls rest)) (kf : b = true → W p l e R s m args below meth c H locs cells slots Q (F0 m (pc + 3) ls rest)) : W p l e R s m args below meth c H locs cells slots Q (F0 m pc ls (.int (nI b.toNat) :: rest)) := by
  cases b with
  | false => exact lv_if_eq S.1 S.2.1 hdg ht (fun _ => kt rfl) (fun h => absurd (by decide) h)
  | true => exact lv_if_eq S.1 S.2.1 hdg ht (fun h => absurd h (by decide)) (fun _ => kf rfl)
theorem n_bif_ne {b : Bool} {tgt : Nat} {off : Int} (S : CallFix p m c cc nL s args tbG own) (hdg : decode cc pc = .ok (.ifCond .ne off, 3)) (ht : (pc : Int) + off = (tgt : Int))
    (kt : b = true → W p l e R s m args below meth c H locs cells slots Q (F0 m tgt ls rest)) (kf : b = false → W p l e R s m args below meth c H locs cells slots Q (F0 m (pc + 3) ls rest)) : W p l e R s m args below meth c H locs cells slots Q (F0 m pc ls (.int (nI b.toNat) :: rest)) := by
  cases b with
  | false => exact lv_if_ne S.1 S.2.1 hdg ht (fun h => absurd (by decide) h) (fun _ => kf rfl)
  | true => exact lv_if_ne S.1 S.2.1 hdg ht (fun _ => kt rfl) (fun h => absurd h (by decide))
theorem n_idec {i k x : Nat} {lv lv' : List (Nat × Value)} (S : CallFix p m c cc nL s args tbG own) (hdg : decode cc pc = .ok (.iinc i (-1), 3)) (h : lv_has ls nL lv) (hk : lv[k]? = some (i, .int (nI x))) (hx : 1 ≤ x) (hn : i < nL) (hl : (i, Value.int (nI (x - 1))) :: lv.filter (fun q => !(q.1 == i) && !(q.1 + 1 == i && q.2.category == 2)) = lv')
    (kk : ∀ ls : Array Slot, lv_has ls nL lv' → W p l e R s m args below meth c H locs cells slots Q (F0 m (pc + 3) ls rest)) : W p l e R s m args below meth c H locs cells slots Q (F0 m pc ls rest) := by
  obtain ⟨y, rfl⟩ : ∃ y, x = y + 1 := ⟨x - 1, by omega⟩
  exact lv_iinc (v := nI (y + 1 - 1)) S.1 S.2.1 hdg h hk (by rw [Nat.add_sub_cancel]; exact pk_m1 y) hn hl kk
/-- a place of a row of any numbers -/
theorem w_iald {D : va_G} {cl : List vw_C} {ws : va_W} {tys : List (ClassId × FieldType)} {a : Nat} (S : CallFix p m c cc nL s args tbG own) (hK : va_K D cl tys s) (hP : va_P D cl ws H) (q0 t0 : Nat) {cA : ClassId} {n : Nat} {f : Nat → Int32} (ha : ws[q0]? = some (a, .inl (cA, n, .inl f))) (ht : tys[t0]? = some (cA, .int)) (hdg : decode cc pc = .ok (.iaload, 1)) {j : Nat} (hn : n < 2 ^ 31) (hj : j < n)
    (kk : W p l e R s m args below meth c H locs cells slots Q (F0 m (pc + 1) ls (.int (f j) :: rest))) : W p l e R s m args below meth c H locs cells slots Q (F0 m pc ls (.int (nI j) :: .ref a :: rest)) := by
  refine va_iald S.1 S.2.1 hK hP q0 t0 ha ht (vp_in_nI hj hn) hdg ?_
  rw [nI_clamp (Nat.lt_trans hj hn)]
  exact kk
/-- stores: a natural number; any number; a flag -/
theorem n_iast {D : va_G} {cl : List vw_C} {ws : va_W} {tys : List (ClassId × FieldType)} {a : Nat} {A : Nat → Prop} {H0 : Heap} (S : CallFix p m c cc nL s args tbG own) (hK : va_K D cl tys s) (hP : va_P D cl ws H) (hD : va_D A ws) (hS : va_S A H0 H locs) (q0 t0 : Nat) {cA : ClassId} {n : Nat} {f : Nat → Nat} (ha : ws[q0]? = some (a, .inl (cA, n, .inl fun k => nI (f k)))) (ht : tys[t0]? = some (cA, .int)) (hdg : decode cc pc = .ok (.iastore, 1)) {j x : Nat} (hn : n < 2 ^ 31) (hj : j < n)
    (kk : ∀ (H1 : Heap) (locs1 : List Loc), va_P D cl (ws.set q0 (a, .inl (cA, n, .inl fun k => nI (va_up f j x k)))) H1 → va_D A (ws.set q0 (a, .inl (cA, n, .inl fun k => nI (va_up f j x k)))) → va_S A H0 H1 locs1 → W p l e R s m args below meth c H1 locs1 cells slots Q (F0 m (pc + 1) ls rest)) : W p l e R s m args below meth c H locs cells slots Q (F0 m pc ls (.int (nI x) :: .int (nI j) :: .ref a :: rest)) := by
  refine va_iast S.1 S.2.1 hK hP hD hS q0 t0 ha ht (vp_in_nI hj hn) hdg ?_
  rw [nI_clamp (Nat.lt_trans hj hn), up_nI]
  exact kk
theorem w_iast {D : va_G} {cl : List vw_C} {ws : va_W} {tys : List (ClassId × FieldType)} {a : Nat} {A : Nat → Prop} {H0 : Heap} (S : CallFix p m c cc nL s args tbG own) (hK : va_K D cl tys s) (hP : va_P D cl ws H) (hD : va_D A ws) (hS : va_S A H0 H locs) (q0 t0 : Nat) {cA : ClassId} {n : Nat} {f : Nat → Int32} (ha : ws[q0]? = some (a, .inl (cA, n, .inl f))) (ht : tys[t0]? = some (cA, .int)) (hdg : decode cc pc = .ok (.iastore, 1)) {j : Nat} {x : Int32} (hn : n < 2 ^ 31) (hj : j < n)
    (kk : ∀ (H1 : Heap) (locs1 : List Loc), va_P D cl (ws.set q0 (a, .inl (cA, n, .inl (upd f j x)))) H1 → va_D A (ws.set q0 (a, .inl (cA, n, .inl (upd f j x)))) → va_S A H0 H1 locs1 → W p l e R s m args below meth c H1 locs1 cells slots Q (F0 m (pc + 1) ls rest)) : W p l e R s m args below meth c H locs cells slots Q (F0 m pc ls (.int x :: .int (nI j) :: .ref a :: rest)) := by
  refine va_iast S.1 S.2.1 hK hP hD hS q0 t0 ha ht (vp_in_nI hj hn) hdg ?_
  rw [nI_clamp (Nat.lt_trans hj hn)]
  exact kk
end BR
end
section
/-! ===== what a state is, and what is asked of it, in natural numbers ===== -/
def isL (u : Int32) : Bool := decide (nI 97 ≤ u) && decide (u < nI 123)
theorem isL_n {j : Nat} (h : j < 2 ^ 31) : isL (nI j) = (decide (97 ≤ j) && decide (j < 123)) := by
  simp only [isL, nI_leI (show 97 < 2 ^ 31 by decide) h, nI_ltI h (show 123 < 2 ^ 31 by decide)]
theorem isL_t {u : Int32} (h : isL u = true) : ∃ j : Nat, 97 ≤ j ∧ j ≤ 122 ∧ u = nI j := by
  simp only [isL, Bool.and_eq_true, decide_eq_true_eq] at h
  have h0 : ¬ u < 0 := fun q => absurd (Int32.lt_of_lt_of_le q (show (0 : Int32) ≤ nI 97 by decide)) (by
    intro z
    have a := Int32.lt_iff_toInt_lt.mp z
    have b := Int32.le_iff_toInt_le.mp h.1
    omega)
  obtain ⟨j, hj, rfl⟩ := nI_of h0
  exact ⟨j, (nI_leI (by decide) hj).mp h.1, by have := (nI_ltI hj (by decide)).mp h.2; omega, rfl⟩
def isLi (u : Int32) : Bool := decide (nI 0 ≤ u) && decide (u < nI 4)
theorem isLi_t {u : Int32} (h : isLi u = true) : ∃ j : Nat, j < 4 ∧ u = nI j := by
  simp only [isLi, Bool.and_eq_true, decide_eq_true_eq] at h
  have h0 : ¬ u < 0 := fun q => by
    have a := Int32.lt_iff_toInt_lt.mp q
    have b := Int32.le_iff_toInt_le.mp h.1
    rw [nI_0] at b
    omega
  obtain ⟨j, hj, rfl⟩ := nI_of h0
  exact ⟨j, (nI_ltI hj (by decide)).mp h.2, rfl⟩
/-- sign i of the row, folded -/
def fsg (sg fo : Nat → Nat) (i : Nat) : Nat := if sg i = 63 then 63 else fo (sg i - 97)
/-- what holds of every state -/
def iv (n m nf : Nat) (sg fo L le sc li ba ca : Nat → Nat) : Prop :=
  (n ≤ 15 ∧ m ≤ 250 ∧ nf ≤ m) ∧ ((∀ k, sg k ≤ 122) ∧ (∀ k, fo k ≤ 122) ∧ (∀ k, L k ≤ 122) ∧ (∀ k, le k ≤ 15) ∧ (∀ k, sc k ≤ 1000) ∧ (∀ k, li k ≤ 15) ∧ (∀ k, ba k ≤ 1) ∧ (∀ k, ca k < 250)) ∧
  (∀ i, i < n → sg i = 63 ∨ 97 ≤ sg i) ∧ (∀ k, k < 26 → 97 ≤ fo k) ∧ (∀ w, w < m → 1 ≤ le w) ∧ (∀ w i, w < m → i < le w → 97 ≤ L (15 * w + i)) ∧ (∀ w i, w < 250 → i < 15 → (m ≤ w ∨ le w ≤ i) → L (15 * w + i) = 0) ∧ (∀ w, m ≤ w → li w = 0 ∧ sc w = 0 ∧ ba w = 0) ∧ (∀ k, k < nf → ca k < m)
/-- what holds of the row and of the folding -/
def ivr (n : Nat) (sg fo : Nat → Nat) : Prop := n ≤ 15 ∧ (∀ k, sg k ≤ 122) ∧ (∀ k, fo k ≤ 122) ∧ (∀ i, i < n → sg i = 63 ∨ 97 ≤ sg i) ∧ (∀ k, k < 26 → 97 ≤ fo k)
theorem iv_r {n m nf : Nat} {sg fo L le sc li ba ca : Nat → Nat} (h : iv n m nf sg fo L le sc li ba ca) : ivr n sg fo := ⟨h.1.1, h.2.1.1, h.2.1.2.1, h.2.2.1, h.2.2.2.1⟩
theorem fsg_in {n m nf : Nat} {sg fo L le sc li ba ca : Nat → Nat} (h : iv n m nf sg fo L le sc li ba ca) {i : Nat} (hi : i < n) : fsg sg fo i = 63 ∨ (97 ≤ fsg sg fo i ∧ fsg sg fo i ≤ 122) := by
  obtain ⟨⟨hn, hm, hf⟩, ⟨hsg, hfo, -⟩, h1, h2, -⟩ := h
  unfold fsg
  by_cases q : sg i = 63
  · simp [q]
  · rw [if_neg q]
    have a := hsg i
    rcases h1 i hi with b | b
    · exact absurd b q
    · exact Or.inr ⟨h2 _ (by omega), hfo _⟩
theorem fsg_le {n m nf : Nat} {sg fo L le sc li ba ca : Nat → Nat} (h : iv n m nf sg fo L le sc li ba ca) (i : Nat) : fsg sg fo i ≤ 122 := by
  obtain ⟨-, ⟨-, hfo, -⟩, -⟩ := h
  unfold fsg
  by_cases q : sg i = 63
  · simp [q]
  · rw [if_neg q]; exact hfo _
/-- letter i of word w, or -1 -/
def lon (L le : Nat → Nat) (w : Nat) (i : Int32) : Int32 := if i < 0 ∨ nI (le w) ≤ i then -1 else nI (L (15 * w + i.toNatClampNeg))
theorem lon_in {L le : Nat → Nat} {w j : Nat} (hj : j < le w) (hle : le w ≤ 15) : lon L le w (nI j) = nI (L (15 * w + j)) := by
  unfold lon
  rw [if_neg (fun q => q.elim (fun q => nI_pos (by omega) q) (fun q => by have := (nI_leI (by omega) (by omega)).mp q; omega)), nI_clamp (by omega)]
theorem lon_out {L le : Nat → Nat} {w j : Nat} (hj : le w ≤ j) (hb : j < 2 ^ 31) : lon L le w (nI j) = -1 := by
  unfold lon
  rw [if_pos (Or.inr (nI_le hj hb))]
/-- the row stands in word w from place f on -/
def mat (n : Nat) (sg fo L : Nat → Nat) (w f : Nat) : Bool := decide (∀ i, i < n → fsg sg fo i = 63 ∨ fsg sg fo i = L (15 * w + (f + i)))
def hbl (n : Nat) (sg : Nat → Nat) : Bool := decide (∃ i, i < n ∧ sg i = 63)
def fit (n : Nat) (sg fo L le : Nat → Nat) (w : Nat) : Bool := decide (le w = n) && mat n sg fo L w 0
def inl (li : Nat → Nat) (w l : Nat) : Bool := (li w).testBit l
def fre (li ba : Nat → Nat) (l w : Nat) : Bool := inl li w l && decide (ba w = 0)
def cnt (P : Nat → Bool) : Nat → Nat
  | 0 => 0
  | k + 1 => cnt P k + (P k).toNat
theorem cnt_le (P : Nat → Bool) (k : Nat) : cnt P k ≤ k := by
  induction k with
  | zero => exact Nat.le_refl 0
  | succ k ih => simp only [cnt]; have := Bool.toNat_le (P k); omega
def smm (f : Nat → Nat) : Nat → Nat
  | 0 => 0
  | k + 1 => smm f k + f k
theorem smm_le {f : Nat → Nat} {B : Nat} (h : ∀ k, f k ≤ B) (k : Nat) : smm f k ≤ k * B := by
  induction k with
  | zero => exact Nat.zero_le _
  | succ k ih => simp only [smm]; have := h k; rw [Nat.succ_mul]; omega
/-- how far f and g are alike, up to b -/
def lcp (f g : Nat → Nat) : Nat → Nat
  | 0 => 0
  | b + 1 => if lcp f g b = b ∧ f b = g b then b + 1 else lcp f g b
theorem lcp_le (f g : Nat → Nat) (b : Nat) : lcp f g b ≤ b := by
  induction b with
  | zero => exact Nat.le_refl 0
  | succ b ih => simp only [lcp]; split <;> omega
theorem lcp_at {f g : Nat → Nat} {b i : Nat} (hi : i ≤ b) (h : ∀ j, j < i → f j = g j) (he : i = b ∨ f i ≠ g i) : lcp f g b = i := by
  have key : ∀ k, k ≤ i → lcp f g k = k := by
    intro k
    induction k with
    | zero => intro _; rfl
    | succ k ih => intro hk; simp only [lcp]; rw [if_pos ⟨ih (by omega), h k (by omega)⟩]
  rcases he with rfl | he
  · exact key i (Nat.le_refl i)
  · have key2 : ∀ k, i + 1 ≤ k → lcp f g k = i := by
      intro k
      induction k with
      | zero => intro hk; omega
      | succ k ih =>
        intro hk
        simp only [lcp]
        by_cases q : k = i
        · subst q
          rw [if_neg (fun z => he z.2), key k (Nat.le_refl k)]
        · rw [ih (by omega), if_neg (fun z => by omega)]
    by_cases q : i = b
    · subst q; exact key i (Nat.le_refl i)
    · exact key2 b (by omega)
theorem lcp_min (f g : Nat → Nat) (s b : Nat) : min s (lcp f g b) = lcp f g (min s b) := by
  have hx : ∃ i, i ≤ b ∧ (∀ j, j < i → f j = g j) ∧ (i = b ∨ f i ≠ g i) := by
    induction b with
    | zero => exact ⟨0, Nat.le_refl 0, fun j h => by omega, Or.inl rfl⟩
    | succ b ih =>
      obtain ⟨i, h1, h2, h3⟩ := ih
      by_cases q : f i = g i
      · have hib : i = b := h3.elim id (fun z => absurd q z)
        subst hib
        exact ⟨i + 1, Nat.le_refl _, fun j hj => by
          by_cases z : j = i
          · rw [z]; exact q
          · exact h2 j (by omega), Or.inl rfl⟩
      · exact ⟨i, by omega, h2, Or.inr q⟩
  obtain ⟨i, h1, h2, h3⟩ := hx
  rw [lcp_at h1 h2 h3]
  refine (lcp_at ?_ (fun j hj => h2 j (by omega)) ?_).symm
  · omega
  · by_cases q : s ≤ i
    · left; omega
    · rcases h3 with rfl | h3
      · left; omega
      · right; rw [Nat.min_eq_right (by omega)]; exact h3
theorem tb_lt : ∀ x, x < 16 → ∀ j, j < 4 → (nI x &&& ((1 : Int32) <<< (nI j &&& 31)) = 0 ↔ x.testBit j = false) ∧ (nI x >>> (nI j &&& 31) &&& 1) = nI (x.testBit j).toNat ∧ (∃ y, y < 16 ∧ y = x ||| 2 ^ j ∧ nI x ||| ((1 : Int32) <<< (nI j &&& 31)) = nI y) ∧ (∃ y, y < 16 ∧ y = x &&& (15 - 2 ^ j) ∧ nI x &&& (((1 : Int32) <<< (nI j &&& 31)) ^^^ (-1)) = nI y) := by
  have key : ∀ x : Fin 16, ∀ j : Fin 4, (nI x.val &&& ((1 : Int32) <<< (nI j.val &&& 31)) = 0 ↔ x.val.testBit j.val = false) ∧ (nI x.val >>> (nI j.val &&& 31) &&& 1) = nI (x.val.testBit j.val).toNat ∧ (x.val ||| 2 ^ j.val) < 16 ∧ nI x.val ||| ((1 : Int32) <<< (nI j.val &&& 31)) = nI (x.val ||| 2 ^ j.val) ∧ (x.val &&& (15 - 2 ^ j.val)) < 16 ∧ nI x.val &&& (((1 : Int32) <<< (nI j.val &&& 31)) ^^^ (-1)) = nI (x.val &&& (15 - 2 ^ j.val)) := by decide +kernel
  intro x hx j hj
  obtain ⟨h1, h2, h3, h4, h5, h6⟩ := key ⟨x, hx⟩ ⟨j, hj⟩
  exact ⟨h1, h2, ⟨_, h3, rfl, h4⟩, ⟨_, h5, rfl, h6⟩⟩
end
section
/-! ===== readers that answer nothing; Math.min, Math.max over natural numbers ===== -/
theorem tr_blind {av : List Value} : FrameBlind (va_Pc av (fun _ => True)) := fun _ _ _ _ q => q
theorem nar_b (b : Bool) : narrow .boolean (.int (nI b.toNat)) = .int (nI b.toNat) := by cases b <;> rfl
def QcV : Array Value → State → Outcome → State → Prop := fun _ st o t => o = .returned none ∧ t.heap = st.heap
abbrev rdv (l : Launch) (y : MethodName) (cc : ByteArray) (nL : Nat) (ret : Option FieldType) (fr lo : Nat) (av : List Value) (B : State → Prop) : Prop :=
  Met l y (wT y cc nL ret) ({ frames := fr, cells := 0, slots := 0, locals := lo }) (va_Pc av B) QcV 0 0 (fun _ => False)
theorem rdv_ofW {l : Launch} {y : MethodName} {cc : ByteArray} {nL fr lo : Nat} {ret : Option FieldType} {av : List Value} {B : State → Prop} (own : String) (hy : plainName y.cls = true) (ho : y.cls = own) (hn : (lg_sl av).length ≤ nL)
    (body : ∀ (p : Program) (e : Env) (s : State) (m : MethodId) (below : List Frame) (meth : Method) (c : Code), CallFix p m c cc nL s av.toArray tbG own → meth.sig.returnType = ret → meth.locks = false → B s → ∀ ls : Array Slot, lv_has ls nL (lv_args 0 av) →
      W p l e ({ frames := fr, cells := 0, slots := 0, locals := lo } : Room) s m av.toArray below meth c s.heap [] 0 0 (MQ below QcV av.toArray s 0 0 (fun _ => False)) (F0 m 0 ls [])) : rdv l y cc nL ret fr lo av B := by
  refine Met.ofW (cc := cc) (maxL := nL) (ret := ret) hy rfl ?_
  intro p e s m args below meth c s₁ B0 hml hv
  obtain ⟨rfl, hv⟩ := hv
  have hts := atoms_spec (ws := wT y cc nL ret) B0.pre
  have hown : s.vm.findClass own = some m.cls := by rw [← ho]; exact findClass_of_methodNamed B0.named
  have hl := lv_entry av (n := nL) hn
  rw [lg_entry_eq]
  generalize (lg_sl av ++ List.replicate (nL - (lg_sl av).length) Slot.unset).toArray = ls at hl ⊢
  exact body p e s m below meth c ⟨B0.exec, B0.bytes, hml, hown, fun w hw => hts w (List.mem_cons_of_mem _ hw)⟩ B0.returns B0.notSynchronized hv ls hl
section RV
variable {p : Program} {l : Launch} {e : Env} {R : Room} {s : State} {m : MethodId} {args : Array Value} {below : List Frame} {meth : Method} {c : Code} {H : Heap} {locs : List Loc} {cells slots : Nat} {Q : State → Prop}
variable {cc : ByteArray} {pc nL : Nat} {ls : Array Slot} {rest : List Value} {own : String}
theorem rdv_ret (S : CallFix p m c cc nL s args tbG own) (hr : meth.sig.returnType = none) (hlk : meth.locks = false) (hdg : decode cc pc = .ok (.return_, 1)) :
    W p l e R s m args below meth c s.heap [] 0 0 (MQ below QcV args s 0 0 (fun _ => False)) (F0 m pc ls []) :=
  W.vret (hlocks := hlk) S.1 S.2.1 hr (fun t ht _ => ⟨rfl, ht⟩) (fun q h => by cases h) hdg
theorem W.callRv {a : Array Value} {st0 : List Value} (hr : CallRun p l e R s m args below meth c H locs cells slots 0 0 (F0 m pc ls st0) rest (QcV a) (fun _ => False)) (kk : W p l e R s m args below meth c H locs cells slots Q (F0 m (pc + 3) ls rest)) : W p l e R s m args below meth c H locs cells slots Q (F0 m pc ls st0) := by
  intro T hT X
  obtain ⟨v, st₀, t, T', L, h0, X', hL, e1, ⟨hv, hh⟩, st⟩ := hr T hT X
  cases hv
  obtain ⟨t2, a1, b1⟩ := kk T' (by rw [e1, hh, h0]) (Stand.forget X' (fun q h => (hL q h).elim))
  exact ⟨t2, st t2 a1, b1⟩
theorem rdv_callS {y : MethodName} {bytes : ByteArray} {maxL index fr lo : Nat} {ret : Option FieldType} {B : State → Prop} {As : List Value} {st : List Value} (S : CallFix p m c cc nL s args tbG own) (hM : rdv l y bytes maxL ret fr lo As B) (hbl : FrameBlind (va_Pc As B)) (hB : ∀ U : State, U.heap = H → s.WarmedH U.vm → B U)
    (hG : GoodIn tbG (wsS own index y (wT y bytes maxL ret))) (hd : y.cls = own ∧ y.cls ≠ "java/lang/invoke/MethodHandle" ∧ y.cls ≠ "java/lang/invoke/VarHandle" ∧ (parseMethodDescriptor y.desc).map (fun d => d.parameters.length) = some As.length) (hR : fr + 1 ≤ R.frames ∧ 8 + (maxL + 11) + lo ≤ R.locals)
    (hls : ls.size = nL) (hst : st = As.reverse ++ rest) (hW : (rest.map fun v => v.category).sum ≤ 8) (hdg : decode cc pc = .ok (.invokestatic index, 3)) (hf : cells ≤ R.cells ∧ slots ≤ R.slots)
    (kk : W p l e R s m args below meth c H locs cells slots Q (F0 m (pc + 3) ls rest)) : W p l e R s m args below meth c H locs cells slots Q (F0 m pc ls st) := by
  subst hst
  exact W.callRv (W.runS (rest := rest) S hM (cwS As.length S.2.2.2.2 hG rfl rfl rfl hd hR) ⟨hbl, fun U hU hW => ⟨rfl, hB U hU hW⟩⟩ rfl rfl hls rfl (lv_room hW) hdg ⟨hf.1, hf.2⟩) kk
theorem rdv_callV {y : MethodName} {bytes : ByteArray} {maxL index fr lo b : Nat} {ret : Option FieldType} {B : State → Prop} {As : List Value} {st : List Value} {C : String} (S : CallFix p m c cc nL s args tbG own) (hM : rdv l y bytes maxL ret fr lo (.ref b :: As) B) (hbl : FrameBlind (va_Pc (.ref b :: As) B)) (hB : ∀ U : State, U.heap = H → s.WarmedH U.vm → B U)
    (hcl : ∃ cellB : Cell, H[b]? = some cellB ∧ cellB.vm.isStatics = false ∧ s.vm.findClass C = some cellB.cls)
    (hG : GoodIn tbG (wsV own index C y (wT y bytes maxL ret))) (hd : y.cls = C ∧ y.cls ≠ "java/lang/invoke/MethodHandle" ∧ y.cls ≠ "java/lang/invoke/VarHandle" ∧ (parseMethodDescriptor y.desc).map (fun d => d.parameters.length) = some As.length) (hR : fr + 1 ≤ R.frames ∧ 8 + (maxL + 11) + lo ≤ R.locals)
    (hls : ls.size = nL) (hst : st = As.reverse ++ .ref b :: rest) (hW : (rest.map fun v => v.category).sum ≤ 8) (hdg : decode cc pc = .ok (.invokevirtual index, 3)) (hf : cells ≤ R.cells ∧ slots ≤ R.slots)
    (kk : W p l e R s m args below meth c H locs cells slots Q (F0 m (pc + 3) ls rest)) : W p l e R s m args below meth c H locs cells slots Q (F0 m pc ls st) := by
  subst hst
  exact W.callRv (W.runV (rest := rest) S hM (cwV As.length S.2.2.2.2 hG rfl rfl rfl hd hR) ⟨hbl, hcl, fun U hU hW => ⟨rfl, hB U hU hW⟩⟩ rfl rfl hls rfl (lv_room hW) hdg ⟨hf.1, hf.2⟩) kk
end RV
theorem mw_max : Cond.methodLink RX0 70 Lib.Math.max.name ∈ tbG ∧ Cond.static Lib.Math.max.name ∈ tbG ∧ Cond.code Lib.Math.max.name Lib.Math.max.code 2 (some .int) ∈ tbG := by decide +kernel
theorem mw_min : Cond.methodLink RX0 118 Lib.Math.min.name ∈ tbG ∧ Cond.static Lib.Math.min.name ∈ tbG ∧ Cond.code Lib.Math.min.name Lib.Math.min.code 2 (some .int) ∈ tbG := by decide +kernel
theorem mw_ini : Cond.initialized "java/lang/Math" ∈ tbG := by decide +kernel
section RM
variable {p : Program} {l : Launch} {e : Env} {R : Room} {s : State} {m : MethodId} {args : Array Value} {below : List Frame} {meth : Method} {c : Code} {H : Heap} {locs : List Loc} {cells slots : Nat} {Q : State → Prop}
variable {cc : ByteArray} {pc nL : Nat} {ls : Array Slot} {rest : List Value}
theorem n_min {x y : Nat} (S : CallFix p m c cc nL s args tbG RX0) (hls : ls.size = nL) (hframes : 1 ≤ R.frames) (hlocals : (rest.map fun v => v.category).sum + 13 ≤ R.locals) (hf : cells ≤ R.cells ∧ slots ≤ R.slots) (hx : x < 2 ^ 31) (hy : y < 2 ^ 31) (hdg : decode cc pc = .ok (.invokestatic 118, 3))
    (kk : W p l e R s m args below meth c H locs cells slots Q (F0 m (pc + 3) ls (.int (nI (min x y)) :: rest))) : W p l e R s m args below meth c H locs cells slots Q (F0 m pc ls (.int (nI y) :: .int (nI x) :: rest)) := by
  refine va_mmin S.1 S.2.1 (S.2.2.1.trans hls.symm) S.2.2.2.1 (S.2.2.2.2 _ mw_min.1) (S.2.2.2.2 _ mw_min.2.1) (S.2.2.2.2 _ mw_ini) (S.2.2.2.2 _ mw_min.2.2) hframes hlocals hf.1 hf.2 hdg ?_
  have e1 : (if nI y < nI x then nI y else nI x) = nI (min x y) := by
    by_cases h : y < x
    · rw [if_pos ((nI_ltI hy hx).mpr h), Nat.min_eq_right (by omega)]
    · rw [if_neg (fun q => h ((nI_ltI hy hx).mp q)), Nat.min_eq_left (by omega)]
  rw [e1]
  exact kk
theorem n_max {x y : Nat} (S : CallFix p m c cc nL s args tbG RX0) (hls : ls.size = nL) (hframes : 1 ≤ R.frames) (hlocals : (rest.map fun v => v.category).sum + 13 ≤ R.locals) (hf : cells ≤ R.cells ∧ slots ≤ R.slots) (hx : x < 2 ^ 31) (hy : y < 2 ^ 31) (hdg : decode cc pc = .ok (.invokestatic 70, 3))
    (kk : W p l e R s m args below meth c H locs cells slots Q (F0 m (pc + 3) ls (.int (nI (max x y)) :: rest))) : W p l e R s m args below meth c H locs cells slots Q (F0 m pc ls (.int (nI y) :: .int (nI x) :: rest)) := by
  refine va_mmax S.1 S.2.1 (S.2.2.1.trans hls.symm) S.2.2.2.1 (S.2.2.2.2 _ mw_max.1) (S.2.2.2.2 _ mw_max.2.1) (S.2.2.2.2 _ mw_ini) (S.2.2.2.2 _ mw_max.2.2) hframes hlocals hf.1 hf.2 hdg ?_
  have e1 : (if nI x < nI y then nI y else nI x) = nI (max x y) := by
    by_cases h : x < y
    · rw [if_pos ((nI_ltI hx hy).mpr h), Nat.max_eq_right (by omega)]
    · rw [if_neg (fun q => h ((nI_ltI hx hy).mp q)), Nat.max_eq_left (by omega)]
  rw [e1]
  exact kk
end RM
end
section
/-! ===== descriptors: by program ===== -/
theorem hdX0_init : yX0_init.cls = RX0 ∧ yX0_init.cls ≠ "java/lang/invoke/MethodHandle" ∧ yX0_init.cls ≠ "java/lang/invoke/VarHandle" ∧ (parseMethodDescriptor yX0_init.desc).map (fun d => d.parameters.length) = some 0 := by decide +kernel
theorem hdX0_sign : yX0_sign.cls = RX0 ∧ yX0_sign.cls ≠ "java/lang/invoke/MethodHandle" ∧ yX0_sign.cls ≠ "java/lang/invoke/VarHandle" ∧ (parseMethodDescriptor yX0_sign.desc).map (fun d => d.parameters.length) = some 1 := by decide +kernel
theorem hdX0_clear : yX0_clear.cls = RX0 ∧ yX0_clear.cls ≠ "java/lang/invoke/MethodHandle" ∧ yX0_clear.cls ≠ "java/lang/invoke/VarHandle" ∧ (parseMethodDescriptor yX0_clear.desc).map (fun d => d.parameters.length) = some 0 := by decide +kernel
theorem hdX0_fold : yX0_fold.cls = RX0 ∧ yX0_fold.cls ≠ "java/lang/invoke/MethodHandle" ∧ yX0_fold.cls ≠ "java/lang/invoke/VarHandle" ∧ (parseMethodDescriptor yX0_fold.desc).map (fun d => d.parameters.length) = some 2 := by decide +kernel
theorem hdX0_enter : yX0_enter.cls = RX0 ∧ yX0_enter.cls ≠ "java/lang/invoke/MethodHandle" ∧ yX0_enter.cls ≠ "java/lang/invoke/VarHandle" ∧ (parseMethodDescriptor yX0_enter.desc).map (fun d => d.parameters.length) = some 2 := by decide +kernel
theorem hdX0_bar : yX0_bar.cls = RX0 ∧ yX0_bar.cls ≠ "java/lang/invoke/MethodHandle" ∧ yX0_bar.cls ≠ "java/lang/invoke/VarHandle" ∧ (parseMethodDescriptor yX0_bar.desc).map (fun d => d.parameters.length) = some 1 := by decide +kernel
theorem hdX0_merge : yX0_merge.cls = RX0 ∧ yX0_merge.cls ≠ "java/lang/invoke/MethodHandle" ∧ yX0_merge.cls ≠ "java/lang/invoke/VarHandle" ∧ (parseMethodDescriptor yX0_merge.desc).map (fun d => d.parameters.length) = some 4 := by decide +kernel
theorem hdX0_seek : yX0_seek.cls = RX0 ∧ yX0_seek.cls ≠ "java/lang/invoke/MethodHandle" ∧ yX0_seek.cls ≠ "java/lang/invoke/VarHandle" ∧ (parseMethodDescriptor yX0_seek.desc).map (fun d => d.parameters.length) = some 1 := by decide +kernel
theorem hdX0_candidate : yX0_candidate.cls = RX0 ∧ yX0_candidate.cls ≠ "java/lang/invoke/MethodHandle" ∧ yX0_candidate.cls ≠ "java/lang/invoke/VarHandle" ∧ (parseMethodDescriptor yX0_candidate.desc).map (fun d => d.parameters.length) = some 1 := by decide +kernel
theorem hdX0_at : yX0_at.cls = RX0 ∧ yX0_at.cls ≠ "java/lang/invoke/MethodHandle" ∧ yX0_at.cls ≠ "java/lang/invoke/VarHandle" ∧ (parseMethodDescriptor yX0_at.desc).map (fun d => d.parameters.length) = some 2 := by decide +kernel
theorem hdX0_begins : yX0_begins.cls = RX0 ∧ yX0_begins.cls ≠ "java/lang/invoke/MethodHandle" ∧ yX0_begins.cls ≠ "java/lang/invoke/VarHandle" ∧ (parseMethodDescriptor yX0_begins.desc).map (fun d => d.parameters.length) = some 1 := by decide +kernel
theorem hdX0_ends : yX0_ends.cls = RX0 ∧ yX0_ends.cls ≠ "java/lang/invoke/MethodHandle" ∧ yX0_ends.cls ≠ "java/lang/invoke/VarHandle" ∧ (parseMethodDescriptor yX0_ends.desc).map (fun d => d.parameters.length) = some 1 := by decide +kernel
theorem hdX0_mixed : yX0_mixed.cls = RX0 ∧ yX0_mixed.cls ≠ "java/lang/invoke/MethodHandle" ∧ yX0_mixed.cls ≠ "java/lang/invoke/VarHandle" ∧ (parseMethodDescriptor yX0_mixed.desc).map (fun d => d.parameters.length) = some 1 := by decide +kernel
theorem hdX0_many : yX0_many.cls = RX0 ∧ yX0_many.cls ≠ "java/lang/invoke/MethodHandle" ∧ yX0_many.cls ≠ "java/lang/invoke/VarHandle" ∧ (parseMethodDescriptor yX0_many.desc).map (fun d => d.parameters.length) = some 2 := by decide +kernel
theorem hdX0_letters : yX0_letters.cls = RX0 ∧ yX0_letters.cls ≠ "java/lang/invoke/MethodHandle" ∧ yX0_letters.cls ≠ "java/lang/invoke/VarHandle" ∧ (parseMethodDescriptor yX0_letters.desc).map (fun d => d.parameters.length) = some 2 := by decide +kernel
theorem hdX0_letter : yX0_letter.cls = RX0 ∧ yX0_letter.cls ≠ "java/lang/invoke/MethodHandle" ∧ yX0_letter.cls ≠ "java/lang/invoke/VarHandle" ∧ (parseMethodDescriptor yX0_letter.desc).map (fun d => d.parameters.length) = some 2 := by decide +kernel
theorem hdX0_tell : yX0_tell.cls = RX0 ∧ yX0_tell.cls ≠ "java/lang/invoke/MethodHandle" ∧ yX0_tell.cls ≠ "java/lang/invoke/VarHandle" ∧ (parseMethodDescriptor yX0_tell.desc).map (fun d => d.parameters.length) = some 2 := by decide +kernel
theorem hdX0_common : yX0_common.cls = RX0 ∧ yX0_common.cls ≠ "java/lang/invoke/MethodHandle" ∧ yX0_common.cls ≠ "java/lang/invoke/VarHandle" ∧ (parseMethodDescriptor yX0_common.desc).map (fun d => d.parameters.length) = some 1 := by decide +kernel
theorem hdX0_isLetter : yX0_isLetter.cls = RX0 ∧ yX0_isLetter.cls ≠ "java/lang/invoke/MethodHandle" ∧ yX0_isLetter.cls ≠ "java/lang/invoke/VarHandle" ∧ (parseMethodDescriptor yX0_isLetter.desc).map (fun d => d.parameters.length) = some 1 := by decide +kernel
theorem hdX0_needLetter : yX0_needLetter.cls = RX0 ∧ yX0_needLetter.cls ≠ "java/lang/invoke/MethodHandle" ∧ yX0_needLetter.cls ≠ "java/lang/invoke/VarHandle" ∧ (parseMethodDescriptor yX0_needLetter.desc).map (fun d => d.parameters.length) = some 1 := by decide +kernel
theorem hdX0_needList : yX0_needList.cls = RX0 ∧ yX0_needList.cls ≠ "java/lang/invoke/MethodHandle" ∧ yX0_needList.cls ≠ "java/lang/invoke/VarHandle" ∧ (parseMethodDescriptor yX0_needList.desc).map (fun d => d.parameters.length) = some 1 := by decide +kernel
theorem hdX0_needWord : yX0_needWord.cls = RX0 ∧ yX0_needWord.cls ≠ "java/lang/invoke/MethodHandle" ∧ yX0_needWord.cls ≠ "java/lang/invoke/VarHandle" ∧ (parseMethodDescriptor yX0_needWord.desc).map (fun d => d.parameters.length) = some 1 := by decide +kernel
theorem hdX0_isChosen : yX0_isChosen.cls = RX0 ∧ yX0_isChosen.cls ≠ "java/lang/invoke/MethodHandle" ∧ yX0_isChosen.cls ≠ "java/lang/invoke/VarHandle" ∧ (parseMethodDescriptor yX0_isChosen.desc).map (fun d => d.parameters.length) = some 3 := by decide +kernel
theorem hdX0_isOf : yX0_isOf.cls = RX0 ∧ yX0_isOf.cls ≠ "java/lang/invoke/MethodHandle" ∧ yX0_isOf.cls ≠ "java/lang/invoke/VarHandle" ∧ (parseMethodDescriptor yX0_isOf.desc).map (fun d => d.parameters.length) = some 2 := by decide +kernel
theorem hdX0_isFreeIn : yX0_isFreeIn.cls = RX0 ∧ yX0_isFreeIn.cls ≠ "java/lang/invoke/MethodHandle" ∧ yX0_isFreeIn.cls ≠ "java/lang/invoke/VarHandle" ∧ (parseMethodDescriptor yX0_isFreeIn.desc).map (fun d => d.parameters.length) = some 2 := by decide +kernel
theorem hdX0_foldedSign : yX0_foldedSign.cls = RX0 ∧ yX0_foldedSign.cls ≠ "java/lang/invoke/MethodHandle" ∧ yX0_foldedSign.cls ≠ "java/lang/invoke/VarHandle" ∧ (parseMethodDescriptor yX0_foldedSign.desc).map (fun d => d.parameters.length) = some 1 := by decide +kernel
theorem hdX0_rowHasBlank : yX0_rowHasBlank.cls = RX0 ∧ yX0_rowHasBlank.cls ≠ "java/lang/invoke/MethodHandle" ∧ yX0_rowHasBlank.cls ≠ "java/lang/invoke/VarHandle" ∧ (parseMethodDescriptor yX0_rowHasBlank.desc).map (fun d => d.parameters.length) = some 0 := by decide +kernel
theorem hdX0_letterOrNone : yX0_letterOrNone.cls = RX0 ∧ yX0_letterOrNone.cls ≠ "java/lang/invoke/MethodHandle" ∧ yX0_letterOrNone.cls ≠ "java/lang/invoke/VarHandle" ∧ (parseMethodDescriptor yX0_letterOrNone.desc).map (fun d => d.parameters.length) = some 2 := by decide +kernel
theorem hdX0_timesInWord : yX0_timesInWord.cls = RX0 ∧ yX0_timesInWord.cls ≠ "java/lang/invoke/MethodHandle" ∧ yX0_timesInWord.cls ≠ "java/lang/invoke/VarHandle" ∧ (parseMethodDescriptor yX0_timesInWord.desc).map (fun d => d.parameters.length) = some 2 := by decide +kernel
theorem hdX0_hasRowAt : yX0_hasRowAt.cls = RX0 ∧ yX0_hasRowAt.cls ≠ "java/lang/invoke/MethodHandle" ∧ yX0_hasRowAt.cls ≠ "java/lang/invoke/VarHandle" ∧ (parseMethodDescriptor yX0_hasRowAt.desc).map (fun d => d.parameters.length) = some 2 := by decide +kernel
theorem hdX0_fits : yX0_fits.cls = RX0 ∧ yX0_fits.cls ≠ "java/lang/invoke/MethodHandle" ∧ yX0_fits.cls ≠ "java/lang/invoke/VarHandle" ∧ (parseMethodDescriptor yX0_fits.desc).map (fun d => d.parameters.length) = some 1 := by decide +kernel
theorem hdX0_wordOfRow : yX0_wordOfRow.cls = RX0 ∧ yX0_wordOfRow.cls ≠ "java/lang/invoke/MethodHandle" ∧ yX0_wordOfRow.cls ≠ "java/lang/invoke/VarHandle" ∧ (parseMethodDescriptor yX0_wordOfRow.desc).map (fun d => d.parameters.length) = some 0 := by decide +kernel
theorem hdX0_addWordOfRow : yX0_addWordOfRow.cls = RX0 ∧ yX0_addWordOfRow.cls ≠ "java/lang/invoke/MethodHandle" ∧ yX0_addWordOfRow.cls ≠ "java/lang/invoke/VarHandle" ∧ (parseMethodDescriptor yX0_addWordOfRow.desc).map (fun d => d.parameters.length) = some 0 := by decide +kernel
theorem hdX0_addCandidate : yX0_addCandidate.cls = RX0 ∧ yX0_addCandidate.cls ≠ "java/lang/invoke/MethodHandle" ∧ yX0_addCandidate.cls ≠ "java/lang/invoke/VarHandle" ∧ (parseMethodDescriptor yX0_addCandidate.desc).map (fun d => d.parameters.length) = some 1 := by decide +kernel
theorem hdX0_isAhead : yX0_isAhead.cls = RX0 ∧ yX0_isAhead.cls ≠ "java/lang/invoke/MethodHandle" ∧ yX0_isAhead.cls ≠ "java/lang/invoke/VarHandle" ∧ (parseMethodDescriptor yX0_isAhead.desc).map (fun d => d.parameters.length) = some 2 := by decide +kernel
theorem hdX0_sharedBeginning : yX0_sharedBeginning.cls = RX0 ∧ yX0_sharedBeginning.cls ≠ "java/lang/invoke/MethodHandle" ∧ yX0_sharedBeginning.cls ≠ "java/lang/invoke/VarHandle" ∧ (parseMethodDescriptor yX0_sharedBeginning.desc).map (fun d => d.parameters.length) = some 2 := by decide +kernel
theorem hdX0_isRowInSomeOrder : yX0_isRowInSomeOrder.cls = RX0 ∧ yX0_isRowInSomeOrder.cls ≠ "java/lang/invoke/MethodHandle" ∧ yX0_isRowInSomeOrder.cls ≠ "java/lang/invoke/VarHandle" ∧ (parseMethodDescriptor yX0_isRowInSomeOrder.desc).map (fun d => d.parameters.length) = some 1 := by decide +kernel
theorem hdX0_fillStock : yX0_fillStock.cls = RX0 ∧ yX0_fillStock.cls ≠ "java/lang/invoke/MethodHandle" ∧ yX0_fillStock.cls ≠ "java/lang/invoke/VarHandle" ∧ (parseMethodDescriptor yX0_fillStock.desc).map (fun d => d.parameters.length) = some 0 := by decide +kernel
theorem hdX1_init : yX1_init.cls = RX1 ∧ yX1_init.cls ≠ "java/lang/invoke/MethodHandle" ∧ yX1_init.cls ≠ "java/lang/invoke/VarHandle" ∧ (parseMethodDescriptor yX1_init.desc).map (fun d => d.parameters.length) = some 0 := by decide +kernel
theorem hdX1_thrown : yX1_thrown.cls = RX1 ∧ yX1_thrown.cls ≠ "java/lang/invoke/MethodHandle" ∧ yX1_thrown.cls ≠ "java/lang/invoke/VarHandle" ∧ (parseMethodDescriptor yX1_thrown.desc).map (fun d => d.parameters.length) = some 0 := by decide +kernel
theorem hdX1_fails : yX1_fails.cls = RX1 ∧ yX1_fails.cls ≠ "java/lang/invoke/MethodHandle" ∧ yX1_fails.cls ≠ "java/lang/invoke/VarHandle" ∧ (parseMethodDescriptor yX1_fails.desc).map (fun d => d.parameters.length) = some 1 := by decide +kernel
theorem hdX1_isLetter : yX1_isLetter.cls = RX1 ∧ yX1_isLetter.cls ≠ "java/lang/invoke/MethodHandle" ∧ yX1_isLetter.cls ≠ "java/lang/invoke/VarHandle" ∧ (parseMethodDescriptor yX1_isLetter.desc).map (fun d => d.parameters.length) = some 1 := by decide +kernel
theorem hdX1_isList : yX1_isList.cls = RX1 ∧ yX1_isList.cls ≠ "java/lang/invoke/MethodHandle" ∧ yX1_isList.cls ≠ "java/lang/invoke/VarHandle" ∧ (parseMethodDescriptor yX1_isList.desc).map (fun d => d.parameters.length) = some 1 := by decide +kernel
theorem hdX1_isWord : yX1_isWord.cls = RX1 ∧ yX1_isWord.cls ≠ "java/lang/invoke/MethodHandle" ∧ yX1_isWord.cls ≠ "java/lang/invoke/VarHandle" ∧ (parseMethodDescriptor yX1_isWord.desc).map (fun d => d.parameters.length) = some 1 := by decide +kernel
theorem hdX1_sign : yX1_sign.cls = RX1 ∧ yX1_sign.cls ≠ "java/lang/invoke/MethodHandle" ∧ yX1_sign.cls ≠ "java/lang/invoke/VarHandle" ∧ (parseMethodDescriptor yX1_sign.desc).map (fun d => d.parameters.length) = some 1 := by decide +kernel
theorem hdX1_clear : yX1_clear.cls = RX1 ∧ yX1_clear.cls ≠ "java/lang/invoke/MethodHandle" ∧ yX1_clear.cls ≠ "java/lang/invoke/VarHandle" ∧ (parseMethodDescriptor yX1_clear.desc).map (fun d => d.parameters.length) = some 0 := by decide +kernel
theorem hdX1_fold : yX1_fold.cls = RX1 ∧ yX1_fold.cls ≠ "java/lang/invoke/MethodHandle" ∧ yX1_fold.cls ≠ "java/lang/invoke/VarHandle" ∧ (parseMethodDescriptor yX1_fold.desc).map (fun d => d.parameters.length) = some 2 := by decide +kernel
theorem hdX1_signAt : yX1_signAt.cls = RX1 ∧ yX1_signAt.cls ≠ "java/lang/invoke/MethodHandle" ∧ yX1_signAt.cls ≠ "java/lang/invoke/VarHandle" ∧ (parseMethodDescriptor yX1_signAt.desc).map (fun d => d.parameters.length) = some 1 := by decide +kernel
theorem hdX1_letterAt : yX1_letterAt.cls = RX1 ∧ yX1_letterAt.cls ≠ "java/lang/invoke/MethodHandle" ∧ yX1_letterAt.cls ≠ "java/lang/invoke/VarHandle" ∧ (parseMethodDescriptor yX1_letterAt.desc).map (fun d => d.parameters.length) = some 2 := by decide +kernel
theorem hdX1_hasBlank : yX1_hasBlank.cls = RX1 ∧ yX1_hasBlank.cls ≠ "java/lang/invoke/MethodHandle" ∧ yX1_hasBlank.cls ≠ "java/lang/invoke/VarHandle" ∧ (parseMethodDescriptor yX1_hasBlank.desc).map (fun d => d.parameters.length) = some 0 := by decide +kernel
theorem hdX1_isAt : yX1_isAt.cls = RX1 ∧ yX1_isAt.cls ≠ "java/lang/invoke/MethodHandle" ∧ yX1_isAt.cls ≠ "java/lang/invoke/VarHandle" ∧ (parseMethodDescriptor yX1_isAt.desc).map (fun d => d.parameters.length) = some 2 := by decide +kernel
theorem hdX1_fits : yX1_fits.cls = RX1 ∧ yX1_fits.cls ≠ "java/lang/invoke/MethodHandle" ∧ yX1_fits.cls ≠ "java/lang/invoke/VarHandle" ∧ (parseMethodDescriptor yX1_fits.desc).map (fun d => d.parameters.length) = some 1 := by decide +kernel
theorem hdX1_isIn : yX1_isIn.cls = RX1 ∧ yX1_isIn.cls ≠ "java/lang/invoke/MethodHandle" ∧ yX1_isIn.cls ≠ "java/lang/invoke/VarHandle" ∧ (parseMethodDescriptor yX1_isIn.desc).map (fun d => d.parameters.length) = some 2 := by decide +kernel
theorem hdX1_enter : yX1_enter.cls = RX1 ∧ yX1_enter.cls ≠ "java/lang/invoke/MethodHandle" ∧ yX1_enter.cls ≠ "java/lang/invoke/VarHandle" ∧ (parseMethodDescriptor yX1_enter.desc).map (fun d => d.parameters.length) = some 2 := by decide +kernel
theorem hdX1_bar : yX1_bar.cls = RX1 ∧ yX1_bar.cls ≠ "java/lang/invoke/MethodHandle" ∧ yX1_bar.cls ≠ "java/lang/invoke/VarHandle" ∧ (parseMethodDescriptor yX1_bar.desc).map (fun d => d.parameters.length) = some 1 := by decide +kernel
theorem hdX1_merge : yX1_merge.cls = RX1 ∧ yX1_merge.cls ≠ "java/lang/invoke/MethodHandle" ∧ yX1_merge.cls ≠ "java/lang/invoke/VarHandle" ∧ (parseMethodDescriptor yX1_merge.desc).map (fun d => d.parameters.length) = some 4 := by decide +kernel
theorem hdX1_isAhead : yX1_isAhead.cls = RX1 ∧ yX1_isAhead.cls ≠ "java/lang/invoke/MethodHandle" ∧ yX1_isAhead.cls ≠ "java/lang/invoke/VarHandle" ∧ (parseMethodDescriptor yX1_isAhead.desc).map (fun d => d.parameters.length) = some 2 := by decide +kernel
theorem hdX1_seek : yX1_seek.cls = RX1 ∧ yX1_seek.cls ≠ "java/lang/invoke/MethodHandle" ∧ yX1_seek.cls ≠ "java/lang/invoke/VarHandle" ∧ (parseMethodDescriptor yX1_seek.desc).map (fun d => d.parameters.length) = some 1 := by decide +kernel
theorem hdX1_candidate : yX1_candidate.cls = RX1 ∧ yX1_candidate.cls ≠ "java/lang/invoke/MethodHandle" ∧ yX1_candidate.cls ≠ "java/lang/invoke/VarHandle" ∧ (parseMethodDescriptor yX1_candidate.desc).map (fun d => d.parameters.length) = some 1 := by decide +kernel
theorem hdX1_at : yX1_at.cls = RX1 ∧ yX1_at.cls ≠ "java/lang/invoke/MethodHandle" ∧ yX1_at.cls ≠ "java/lang/invoke/VarHandle" ∧ (parseMethodDescriptor yX1_at.desc).map (fun d => d.parameters.length) = some 2 := by decide +kernel
theorem hdX1_count : yX1_count.cls = RX1 ∧ yX1_count.cls ≠ "java/lang/invoke/MethodHandle" ∧ yX1_count.cls ≠ "java/lang/invoke/VarHandle" ∧ (parseMethodDescriptor yX1_count.desc).map (fun d => d.parameters.length) = some 2 := by decide +kernel
theorem hdX1_begins : yX1_begins.cls = RX1 ∧ yX1_begins.cls ≠ "java/lang/invoke/MethodHandle" ∧ yX1_begins.cls ≠ "java/lang/invoke/VarHandle" ∧ (parseMethodDescriptor yX1_begins.desc).map (fun d => d.parameters.length) = some 1 := by decide +kernel
theorem hdX1_ends : yX1_ends.cls = RX1 ∧ yX1_ends.cls ≠ "java/lang/invoke/MethodHandle" ∧ yX1_ends.cls ≠ "java/lang/invoke/VarHandle" ∧ (parseMethodDescriptor yX1_ends.desc).map (fun d => d.parameters.length) = some 1 := by decide +kernel
theorem hdX1_isMixed : yX1_isMixed.cls = RX1 ∧ yX1_isMixed.cls ≠ "java/lang/invoke/MethodHandle" ∧ yX1_isMixed.cls ≠ "java/lang/invoke/VarHandle" ∧ (parseMethodDescriptor yX1_isMixed.desc).map (fun d => d.parameters.length) = some 1 := by decide +kernel
theorem hdX1_mixed : yX1_mixed.cls = RX1 ∧ yX1_mixed.cls ≠ "java/lang/invoke/MethodHandle" ∧ yX1_mixed.cls ≠ "java/lang/invoke/VarHandle" ∧ (parseMethodDescriptor yX1_mixed.desc).map (fun d => d.parameters.length) = some 1 := by decide +kernel
theorem hdX1_many : yX1_many.cls = RX1 ∧ yX1_many.cls ≠ "java/lang/invoke/MethodHandle" ∧ yX1_many.cls ≠ "java/lang/invoke/VarHandle" ∧ (parseMethodDescriptor yX1_many.desc).map (fun d => d.parameters.length) = some 2 := by decide +kernel
theorem hdX1_letters : yX1_letters.cls = RX1 ∧ yX1_letters.cls ≠ "java/lang/invoke/MethodHandle" ∧ yX1_letters.cls ≠ "java/lang/invoke/VarHandle" ∧ (parseMethodDescriptor yX1_letters.desc).map (fun d => d.parameters.length) = some 2 := by decide +kernel
theorem hdX1_letter : yX1_letter.cls = RX1 ∧ yX1_letter.cls ≠ "java/lang/invoke/MethodHandle" ∧ yX1_letter.cls ≠ "java/lang/invoke/VarHandle" ∧ (parseMethodDescriptor yX1_letter.desc).map (fun d => d.parameters.length) = some 2 := by decide +kernel
theorem hdX1_tell : yX1_tell.cls = RX1 ∧ yX1_tell.cls ≠ "java/lang/invoke/MethodHandle" ∧ yX1_tell.cls ≠ "java/lang/invoke/VarHandle" ∧ (parseMethodDescriptor yX1_tell.desc).map (fun d => d.parameters.length) = some 2 := by decide +kernel
theorem hdX1_common : yX1_common.cls = RX1 ∧ yX1_common.cls ≠ "java/lang/invoke/MethodHandle" ∧ yX1_common.cls ≠ "java/lang/invoke/VarHandle" ∧ (parseMethodDescriptor yX1_common.desc).map (fun d => d.parameters.length) = some 1 := by decide +kernel
theorem hdL_fold : yL_fold.cls = RL ∧ yL_fold.cls ≠ "java/lang/invoke/MethodHandle" ∧ yL_fold.cls ≠ "java/lang/invoke/VarHandle" ∧ (parseMethodDescriptor yL_fold.desc).map (fun d => d.parameters.length) = some 3 := by decide +kernel
theorem hdL_enter : yL_enter.cls = RL ∧ yL_enter.cls ≠ "java/lang/invoke/MethodHandle" ∧ yL_enter.cls ≠ "java/lang/invoke/VarHandle" ∧ (parseMethodDescriptor yL_enter.desc).map (fun d => d.parameters.length) = some 4 := by decide +kernel
theorem hdL_merge : yL_merge.cls = RL ∧ yL_merge.cls ≠ "java/lang/invoke/MethodHandle" ∧ yL_merge.cls ≠ "java/lang/invoke/VarHandle" ∧ (parseMethodDescriptor yL_merge.desc).map (fun d => d.parameters.length) = some 6 := by decide +kernel
theorem hdL_seek : yL_seek.cls = RL ∧ yL_seek.cls ≠ "java/lang/invoke/MethodHandle" ∧ yL_seek.cls ≠ "java/lang/invoke/VarHandle" ∧ (parseMethodDescriptor yL_seek.desc).map (fun d => d.parameters.length) = some 3 := by decide +kernel
theorem hdL_candidate : yL_candidate.cls = RL ∧ yL_candidate.cls ≠ "java/lang/invoke/MethodHandle" ∧ yL_candidate.cls ≠ "java/lang/invoke/VarHandle" ∧ (parseMethodDescriptor yL_candidate.desc).map (fun d => d.parameters.length) = some 3 := by decide +kernel
theorem hdL_at : yL_at.cls = RL ∧ yL_at.cls ≠ "java/lang/invoke/MethodHandle" ∧ yL_at.cls ≠ "java/lang/invoke/VarHandle" ∧ (parseMethodDescriptor yL_at.desc).map (fun d => d.parameters.length) = some 4 := by decide +kernel
theorem hdL_begins : yL_begins.cls = RL ∧ yL_begins.cls ≠ "java/lang/invoke/MethodHandle" ∧ yL_begins.cls ≠ "java/lang/invoke/VarHandle" ∧ (parseMethodDescriptor yL_begins.desc).map (fun d => d.parameters.length) = some 3 := by decide +kernel
theorem hdL_ends : yL_ends.cls = RL ∧ yL_ends.cls ≠ "java/lang/invoke/MethodHandle" ∧ yL_ends.cls ≠ "java/lang/invoke/VarHandle" ∧ (parseMethodDescriptor yL_ends.desc).map (fun d => d.parameters.length) = some 3 := by decide +kernel
theorem hdL_mixed : yL_mixed.cls = RL ∧ yL_mixed.cls ≠ "java/lang/invoke/MethodHandle" ∧ yL_mixed.cls ≠ "java/lang/invoke/VarHandle" ∧ (parseMethodDescriptor yL_mixed.desc).map (fun d => d.parameters.length) = some 3 := by decide +kernel
theorem hdL_many : yL_many.cls = RL ∧ yL_many.cls ≠ "java/lang/invoke/MethodHandle" ∧ yL_many.cls ≠ "java/lang/invoke/VarHandle" ∧ (parseMethodDescriptor yL_many.desc).map (fun d => d.parameters.length) = some 4 := by decide +kernel
theorem hdL_letters : yL_letters.cls = RL ∧ yL_letters.cls ≠ "java/lang/invoke/MethodHandle" ∧ yL_letters.cls ≠ "java/lang/invoke/VarHandle" ∧ (parseMethodDescriptor yL_letters.desc).map (fun d => d.parameters.length) = some 4 := by decide +kernel
theorem hdL_letter : yL_letter.cls = RL ∧ yL_letter.cls ≠ "java/lang/invoke/MethodHandle" ∧ yL_letter.cls ≠ "java/lang/invoke/VarHandle" ∧ (parseMethodDescriptor yL_letter.desc).map (fun d => d.parameters.length) = some 4 := by decide +kernel
theorem hdL_tell : yL_tell.cls = RL ∧ yL_tell.cls ≠ "java/lang/invoke/MethodHandle" ∧ yL_tell.cls ≠ "java/lang/invoke/VarHandle" ∧ (parseMethodDescriptor yL_tell.desc).map (fun d => d.parameters.length) = some 4 := by decide +kernel
theorem hdL_common : yL_common.cls = RL ∧ yL_common.cls ≠ "java/lang/invoke/MethodHandle" ∧ yL_common.cls ≠ "java/lang/invoke/VarHandle" ∧ (parseMethodDescriptor yL_common.desc).map (fun d => d.parameters.length) = some 3 := by decide +kernel
theorem hdL_law : yL_law.cls = RL ∧ yL_law.cls ≠ "java/lang/invoke/MethodHandle" ∧ yL_law.cls ≠ "java/lang/invoke/VarHandle" ∧ (parseMethodDescriptor yL_law.desc).map (fun d => d.parameters.length) = some 1 := by decide +kernel
end
section
/-! ===== the class: its readers ===== -/
/-- the first word that P holds of, or -1 -/
def wof (mw : Nat) (P : Nat → Bool) : Int32 := match (List.range mw).find? P with
  | some k => nI k
  | none => -1
theorem wof_at {mw i : Nat} {P : Nat → Bool} (hi : i < mw) (h : ∀ j, j < i → P j = false) (hp : P i = true) : wof mw P = nI i := by
  have e1 : (List.range mw).find? P = some i := by
    rw [List.find?_range_eq_some]
    refine ⟨hp, by simpa using hi, fun j hj => by simp [h j hj]⟩
  rw [wof, e1]
theorem wof_no {mw : Nat} {P : Nat → Bool} (h : ∀ j, j < mw → P j = false) : wof mw P = -1 := by
  have e1 : (List.range mw).find? P = none := by
    rw [List.find?_eq_none]
    intro x hx
    simp [h x (by simpa using hx)]
  rw [wof, e1]
/-- which words a list has behind a merge -/
def cho (hw : Nat) (o q : Bool) : Bool := if hw = 0 then o || q else if hw = 1 then o && q else o && !q
set_option maxRecDepth 100000 in
theorem kX0_isLetter (l : Launch) (u : Int32) : rd l yX0_isLetter cX0_isLetter 1 (some .boolean) 0 0 [.int u] (fun _ => True) (nI (isL u).toNat) := by
  refine rd_ofW RX0 (by decide) rfl (Nat.le_of_ble_eq_true rfl) ?_
  intro p e s m below meth c S hr hlk hB ls hl
  have hl : lv_has ls 1 [(0, .int u)] := hl
  refine lv_iload_n S.1 S.2.1 dX0_isLetter_0 rfl (lv_at hl 0 rfl) ?_
  refine lv_bipush (v := (nI 97)) S.1 S.2.1 dX0_isLetter_1 (by decide) ?_
  refine lv_icmp_lt (tgt := 16) S.1 S.2.1 dX0_isLetter_3 (by decide) (fun h3 => ?_) (fun h3 => ?_)
  · refine lv_iconst (v := (nI 0)) S.1 S.2.1 dX0_isLetter_16 (by decide) ?_
    exact rd_ret S hr hlk (rfl) (by first | (simp only [isL, decide_eq_true (Int32.not_lt.mp h3), decide_eq_true (Int32.not_le.mp h9)]; rfl) | (simp only [isL, decide_eq_false (Int32.not_lt.mpr h9), Bool.and_false]; rfl) | (simp only [isL, decide_eq_false (Int32.not_le.mpr h3), Bool.false_and]; rfl)) dX0_isLetter_17
  · refine lv_iload_n S.1 S.2.1 dX0_isLetter_6 rfl (lv_at hl 0 rfl) ?_
    refine lv_bipush (v := (nI 123)) S.1 S.2.1 dX0_isLetter_7 (by decide) ?_
    refine lv_icmp_ge (tgt := 16) S.1 S.2.1 dX0_isLetter_9 (by decide) (fun h9 => ?_) (fun h9 => ?_)
    · refine lv_iconst (v := (nI 0)) S.1 S.2.1 dX0_isLetter_16 (by decide) ?_
      exact rd_ret S hr hlk (rfl) (by first | (simp only [isL, decide_eq_true (Int32.not_lt.mp h3), decide_eq_true (Int32.not_le.mp h9)]; rfl) | (simp only [isL, decide_eq_false (Int32.not_lt.mpr h9), Bool.and_false]; rfl) | (simp only [isL, decide_eq_false (Int32.not_le.mpr h3), Bool.false_and]; rfl)) dX0_isLetter_17
    · refine lv_iconst (v := (nI 1)) S.1 S.2.1 dX0_isLetter_12 (by decide) ?_
      refine lv_goto (tgt := 17) S.1 S.2.1 dX0_isLetter_13 (by decide) ?_
      exact rd_ret S hr hlk (rfl) (by first | (simp only [isL, decide_eq_true (Int32.not_lt.mp h3), decide_eq_true (Int32.not_le.mp h9)]; rfl) | (simp only [isL, decide_eq_false (Int32.not_lt.mpr h9), Bool.and_false]; rfl) | (simp only [isL, decide_eq_false (Int32.not_le.mpr h3), Bool.false_and]; rfl)) dX0_isLetter_17

set_option maxRecDepth 100000 in
theorem kX0_foldedSign (l : Launch) (dC : Nat → ClassId) (dI : Nat → Nat → Nat) (cI cZ cJ : ClassId) (a : Nat → Nat) (n mw nf : Nat) (sg fo L le sc li ba ca st : Nat → Nat) (i : Nat) (hR : ivr n sg fo) (hi : i < n) : rd l yX0_foldedSign cX0_foldedSign 3 (some .int) 1 20 [.ref (a 0), .int (nI i)] (rB dC dI cI cZ cJ (vX cI cZ a n mw nf sg fo L le sc li ba ca st)) (nI (fsg sg fo i)) := by
  refine rd_ofW RX0 (by decide) rfl (Nat.le_of_ble_eq_true rfl) ?_
  intro p e s m below meth c S hr hlk hB ls hl
  obtain ⟨hP, hK⟩ := hB
  have hl : lv_has ls 3 [(0, .ref (a 0)), (1, .int (nI i))] := hl
  obtain ⟨hn, hsg, hfo, hv1, hv2⟩ := id hR
  refine lv_aload_n S.1 S.2.1 dX0_foldedSign_0 rfl (lv_at hl 0 rfl) ?_
  refine fX0_signs (v := .ref (a 1)) S hK hP rfl rfl dX0_foldedSign_1 ?_
  refine lv_iload_n S.1 S.2.1 dX0_foldedSign_4 rfl (lv_at hl 1 rfl) ?_
  refine n_iald S hK hP 1 0 rfl rfl dX0_foldedSign_5 (j := i) (by decide) (by omega) ?_
  have b5 := hsg i
  refine lv_istore_n (lv' := [(2, .int (nI (sg i))), (0, .ref (a 0)), (1, .int (nI i))]) S.1 S.2.1 dX0_foldedSign_6 rfl hl (by decide) rfl (fun ls hl => ?_)
  refine lv_iload_n S.1 S.2.1 dX0_foldedSign_7 rfl (lv_at hl 0 rfl) ?_
  refine rd_callS (As := [.int (nI (sg i))]) (rest := []) S (kX0_isLetter l ((nI (sg i)))) tr_blind (fun _ _ _ => trivial) gX0_48 hdX0_isLetter (by decide) hl.1 rfl (Nat.le_of_ble_eq_true rfl) dX0_foldedSign_8 ⟨Nat.zero_le _, Nat.zero_le _⟩ ?_
  rw [isL_n (by omega)]
  have h1 := hv1 i hi
  refine n_bif_eq (b := (decide (97 ≤ sg i) && decide (sg i < 123))) (tgt := 26) S dX0_foldedSign_11 (by decide) (fun h11 => ?_) (fun h11 => ?_)
  · refine lv_bipush (v := (nI 63)) S.1 S.2.1 dX0_foldedSign_26 (by decide) ?_
    exact rd_ret S hr hlk (rfl) (by first | (have h2 : 97 ≤ sg i := by (simp only [Bool.and_eq_true, decide_eq_true_eq] at h11; exact h11.1)); rw [fsg, if_neg (by omega)] | (rw [fsg, if_pos]; simp only [Bool.and_eq_false_iff, decide_eq_false_iff_not] at h11; omega)) dX0_foldedSign_28
  · refine lv_aload_n S.1 S.2.1 dX0_foldedSign_14 rfl (lv_at hl 1 rfl) ?_
    refine fX0_folding (v := .ref (a 2)) S hK hP rfl rfl dX0_foldedSign_15 ?_
    refine lv_iload_n S.1 S.2.1 dX0_foldedSign_18 rfl (lv_at hl 0 rfl) ?_
    have h2 : 97 ≤ sg i := by simp only [Bool.and_eq_true, decide_eq_true_eq] at h11; exact h11.1
    refine lv_bipush (v := (nI 97)) S.1 S.2.1 dX0_foldedSign_19 (by decide) ?_
    refine n_isub (x := sg i) (y := 97) S dX0_foldedSign_21 (by omega) ?_
    refine n_iald S hK hP 2 0 rfl rfl dX0_foldedSign_22 (j := (sg i) - 97) (by decide) (by omega) ?_
    have b22 := hfo ((sg i) - 97)
    refine lv_goto (tgt := 28) S.1 S.2.1 dX0_foldedSign_23 (by decide) ?_
    exact rd_ret S hr hlk (rfl) (by first | (have h2 : 97 ≤ sg i := by (simp only [Bool.and_eq_true, decide_eq_true_eq] at h11; exact h11.1)); rw [fsg, if_neg (by omega)] | (rw [fsg, if_pos]; simp only [Bool.and_eq_false_iff, decide_eq_false_iff_not] at h11; omega)) dX0_foldedSign_28

set_option maxRecDepth 100000 in
theorem kX0_letterOrNone (l : Launch) (dC : Nat → ClassId) (dI : Nat → Nat → Nat) (cI cZ cJ : ClassId) (a : Nat → Nat) (n mw nf : Nat) (sg fo L le sc li ba ca st : Nat → Nat) (w : Nat) (x : Int32) (hI : iv n mw nf sg fo L le sc li ba ca) (hw : w < 250) : rd l yX0_letterOrNone cX0_letterOrNone 3 (some .int) 0 0 [.ref (a 0), .int (nI w), .int x] (rB dC dI cI cZ cJ (vX cI cZ a n mw nf sg fo L le sc li ba ca st)) (lon L le w x) := by
  refine rd_ofW RX0 (by decide) rfl (Nat.le_of_ble_eq_true rfl) ?_
  intro p e s m below meth c S hr hlk hB ls hl
  obtain ⟨hP, hK⟩ := hB
  have hl : lv_has ls 3 [(0, .ref (a 0)), (1, .int (nI w)), (2, .int x)] := hl
  obtain ⟨⟨hn, hm, hf⟩, ⟨hsg, hfo, hL, hle, hsc, hli, hba, hca⟩, hv1, hv2, hv3, hv4, hv5, hv6, hv7⟩ := id hI
  refine lv_iload_n S.1 S.2.1 dX0_letterOrNone_0 rfl (lv_at hl 2 rfl) ?_
  refine lv_if_lt (tgt := 14) S.1 S.2.1 dX0_letterOrNone_1 (by decide) (fun h1 => ?_) (fun h1 => ?_)
  · refine lv_iconst (v := -1) S.1 S.2.1 dX0_letterOrNone_14 (by decide) ?_
    exact rd_ret S hr hlk (rfl) (by rw [lon, if_pos (by first | exact Or.inr (Int32.not_lt.mp h11) | exact Or.inl h1)]) dX0_letterOrNone_15
  · refine lv_iload_n S.1 S.2.1 dX0_letterOrNone_4 rfl (lv_at hl 2 rfl) ?_
    refine lv_aload_n S.1 S.2.1 dX0_letterOrNone_5 rfl (lv_at hl 0 rfl) ?_
    refine fX0_wordLengths (v := .ref (a 4)) S hK hP rfl rfl dX0_letterOrNone_6 ?_
    refine lv_iload_n S.1 S.2.1 dX0_letterOrNone_9 rfl (lv_at hl 1 rfl) ?_
    refine n_iald S hK hP 4 0 rfl rfl dX0_letterOrNone_10 (j := w) (by decide) (by omega) ?_
    have b10 := hle w
    refine lv_icmp_lt (tgt := 16) S.1 S.2.1 dX0_letterOrNone_11 (by decide) (fun h11 => ?_) (fun h11 => ?_)
    · obtain ⟨j, hj, rfl⟩ := nI_of h1
      have h2 : j < le w := (nI_ltI hj (by omega)).mp h11
      refine lv_aload_n S.1 S.2.1 dX0_letterOrNone_16 rfl (lv_at hl 0 rfl) ?_
      refine fX0_wordLetters (v := .ref (a 3)) S hK hP rfl rfl dX0_letterOrNone_17 ?_
      refine lv_iload_n S.1 S.2.1 dX0_letterOrNone_20 rfl (lv_at hl 1 rfl) ?_
      refine lv_bipush (v := (nI 15)) S.1 S.2.1 dX0_letterOrNone_21 (by decide) ?_
      refine n_imul (x := w) (y := 15) S dX0_letterOrNone_23 ?_
      refine lv_iload_n S.1 S.2.1 dX0_letterOrNone_24 rfl (lv_at hl 2 rfl) ?_
      refine n_iadd (x := w * 15) (y := j) S dX0_letterOrNone_25 ?_
      refine n_iald S hK hP 3 0 rfl rfl dX0_letterOrNone_26 (j := w * 15 + j) (by decide) (by omega) ?_
      have b26 := hL (w * 15 + j)
      exact rd_ret S hr hlk (rfl) (by rw [lon_in h2 (hle w), Nat.mul_comm w 15]) dX0_letterOrNone_27
    · refine lv_iconst (v := -1) S.1 S.2.1 dX0_letterOrNone_14 (by decide) ?_
      exact rd_ret S hr hlk (rfl) (by rw [lon, if_pos (by first | exact Or.inr (Int32.not_lt.mp h11) | exact Or.inl h1)]) dX0_letterOrNone_15

set_option maxRecDepth 100000 in
theorem lX0_hasRowAt_23 (l : Launch) (dC : Nat → ClassId) (dI : Nat → Nat → Nat) (cI cZ cJ : ClassId) (a : Nat → Nat) (n mw nf : Nat) (sg fo L le sc li ba ca st : Nat → Nat) (w : Nat) (f : Nat) (hI : iv n mw nf sg fo L le sc li ba ca) (hw : w < mw) (hf0 : f ≤ 15)  {p : Program} {e : Env} {s : State} {m : MethodId} {below : List Frame} {meth : Method} {c : Code} (S : CallFix p m c cX0_hasRowAt 5 s ([.ref (a 0), .int (nI w), .int (nI f)] : List Value).toArray tbG RX0) (hr : meth.sig.returnType = (some .boolean)) (hlk : meth.locks = false) (hK : va_K (dC, dI) vcl (vty cI cZ cJ) s) (hP : va_P (dC, dI) vcl (vX cI cZ a n mw nf sg fo L le sc li ba ca st) s.heap) :
    ∀ (fuel : Nat) (i : Nat), n - i < fuel → f + n ≤ le w → i ≤ n → (∀ j, j < i → fsg sg fo j = 63 ∨ fsg sg fo j = L (15 * w + (f + j))) → ∀ ls : Array Slot, lv_has ls 5 [(0, .ref (a 0)), (1, .int (nI w)), (2, .int (nI f)), (3, .int (nI i))] → W p l e ({ frames := 2, cells := 0, slots := 0, locals := 42 } : Room) s m ([.ref (a 0), .int (nI w), .int (nI f)] : List Value).toArray below meth c s.heap [] 0 0 (MQ below (QcRead (nI ((decide (f + n ≤ le w) && mat n sg fo L w f)).toNat)) [.ref (a 0), .int (nI w), .int (nI f)].toArray s 0 0 (fun _ => False)) (F0 m 23 ls []) := by
  obtain ⟨⟨hn, hm, hf⟩, ⟨hsg, hfo, hL, hle, hsc, hli, hba, hca⟩, hv1, hv2, hv3, hv4, hv5, hv6, hv7⟩ := id hI
  intro fuel
  induction fuel with
  | zero =>
    intro i hq
    exact absurd hq (Nat.not_lt_zero _)
  | succ fuel ih =>
    intro i hq h16 hi hq1 ls hl
    have hlew := hle w
    refine lv_iload_n S.1 S.2.1 dX0_hasRowAt_23 rfl (lv_at hl 3 rfl) ?_
    refine lv_aload_n S.1 S.2.1 dX0_hasRowAt_24 rfl (lv_at hl 0 rfl) ?_
    refine fX0_signCount (v := .int (nI n)) S hK hP rfl rfl dX0_hasRowAt_25 ?_
    refine n_icmp_ge (x := i) (y := n) (tgt := 66) S dX0_hasRowAt_28 (by decide) (by omega) (by omega) (fun h28 => ?_) (fun h28 => ?_)
    · refine lv_iconst (v := (nI 1)) S.1 S.2.1 dX0_hasRowAt_66 (by decide) ?_
      exact rd_ret S hr hlk (rfl) (by rw [decide_eq_true h16, mat, decide_eq_true (fun j hj => hq1 j (by omega))]; rfl) dX0_hasRowAt_67
    · refine lv_aload_n S.1 S.2.1 dX0_hasRowAt_31 rfl (lv_at hl 0 rfl) ?_
      refine lv_iload_n S.1 S.2.1 dX0_hasRowAt_32 rfl (lv_at hl 3 rfl) ?_
      refine rd_callV (C := RX0) (As := [.int (nI i)]) (rest := []) S (kX0_foldedSign l dC dI cI cZ cJ a n mw nf sg fo L le sc li ba ca st i (iv_r hI) (by omega)) rB_blind (fun U hU hW => ⟨by rw [hU]; exact hP, va_K.moved hW.alike hK⟩) (va_recv hK hP (ci := 0) (q0 := 0) rfl rfl) gX0_127 hdX0_foldedSign (by decide) hl.1 rfl (Nat.le_of_ble_eq_true rfl) dX0_hasRowAt_33 ⟨Nat.zero_le _, Nat.zero_le _⟩ ?_
      have b33 := fsg_le hI i
      refine lv_istore (lv' := [(4, .int (nI (fsg sg fo i))), (0, .ref (a 0)), (1, .int (nI w)), (2, .int (nI f)), (3, .int (nI i))]) S.1 S.2.1 dX0_hasRowAt_36 hl (by decide) rfl (fun ls hl => ?_)
      refine lv_iload S.1 S.2.1 dX0_hasRowAt_38 (lv_at hl 0 rfl) ?_
      refine lv_bipush (v := (nI 63)) S.1 S.2.1 dX0_hasRowAt_40 (by decide) ?_
      refine n_icmp_eq (x := fsg sg fo i) (y := 63) (tgt := 60) S dX0_hasRowAt_42 (by decide) (by omega) (by omega) (fun h42 => ?_) (fun h42 => ?_)
      · refine n_iinc (lv' := [(3, .int (nI (i + 1))), (4, .int (nI (fsg sg fo i))), (0, .ref (a 0)), (1, .int (nI w)), (2, .int (nI f))]) (x := i) (k := 4) S dX0_hasRowAt_60 hl rfl (by decide) rfl (fun ls hl => ?_)
        refine lv_goto (tgt := 23) S.1 S.2.1 dX0_hasRowAt_63 (by decide) ?_
        exact ih (i + 1) (by omega) h16 (by omega) (lt_s hq1 (by omega)) ls (lv_sub hl [2, 3, 4, 0] rfl)
      · refine lv_iload S.1 S.2.1 dX0_hasRowAt_45 (lv_at hl 0 rfl) ?_
        refine lv_aload_n S.1 S.2.1 dX0_hasRowAt_47 rfl (lv_at hl 1 rfl) ?_
        refine lv_iload_n S.1 S.2.1 dX0_hasRowAt_48 rfl (lv_at hl 2 rfl) ?_
        refine lv_iload_n S.1 S.2.1 dX0_hasRowAt_49 rfl (lv_at hl 3 rfl) ?_
        refine lv_iload_n S.1 S.2.1 dX0_hasRowAt_50 rfl (lv_at hl 4 rfl) ?_
        refine n_iadd (x := f) (y := i) S dX0_hasRowAt_51 ?_
        refine rd_callV (C := RX0) (As := [.int (nI w), .int (nI (f + i))]) (rest := [.int (nI (fsg sg fo i))]) S (kX0_letterOrNone l dC dI cI cZ cJ a n mw nf sg fo L le sc li ba ca st w (nI (f + i)) hI (by omega)) rB_blind (fun U hU hW => ⟨by rw [hU]; exact hP, va_K.moved hW.alike hK⟩) (va_recv hK hP (ci := 0) (q0 := 0) rfl rfl) gX0_100 hdX0_letterOrNone (by decide) hl.1 rfl (Nat.le_of_ble_eq_true rfl) dX0_hasRowAt_52 ⟨Nat.zero_le _, Nat.zero_le _⟩ ?_
        rw [lon_in (by omega) (hle w)]
        have b52 := hL (15 * w + (f + i))
        refine n_icmp_eq (x := fsg sg fo i) (y := L (15 * w + (f + i))) (tgt := 60) S dX0_hasRowAt_55 (by decide) (by omega) (by omega) (fun h55 => ?_) (fun h55 => ?_)
        · refine n_iinc (lv' := [(3, .int (nI (i + 1))), (4, .int (nI (fsg sg fo i))), (0, .ref (a 0)), (1, .int (nI w)), (2, .int (nI f))]) (x := i) (k := 4) S dX0_hasRowAt_60 hl rfl (by decide) rfl (fun ls hl => ?_)
          refine lv_goto (tgt := 23) S.1 S.2.1 dX0_hasRowAt_63 (by decide) ?_
          exact ih (i + 1) (by omega) h16 (by omega) (lt_s hq1 (by omega)) ls (lv_sub hl [2, 3, 4, 0] rfl)
        · refine lv_iconst (v := (nI 0)) S.1 S.2.1 dX0_hasRowAt_58 (by decide) ?_
          exact rd_ret S hr hlk (rfl) (by rw [decide_eq_true h16, mat, decide_eq_false (fun q => by have := q i (by omega); omega)]; rfl) dX0_hasRowAt_59
set_option maxRecDepth 100000 in
theorem kX0_hasRowAt (l : Launch) (dC : Nat → ClassId) (dI : Nat → Nat → Nat) (cI cZ cJ : ClassId) (a : Nat → Nat) (n mw nf : Nat) (sg fo L le sc li ba ca st : Nat → Nat) (w : Nat) (f : Nat) (hI : iv n mw nf sg fo L le sc li ba ca) (hw : w < mw) (hf0 : f ≤ 15) : rd l yX0_hasRowAt cX0_hasRowAt 5 (some .boolean) 2 42 [.ref (a 0), .int (nI w), .int (nI f)] (rB dC dI cI cZ cJ (vX cI cZ a n mw nf sg fo L le sc li ba ca st)) (nI ((decide (f + n ≤ le w) && mat n sg fo L w f)).toNat) := by
  refine rd_ofW RX0 (by decide) rfl (Nat.le_of_ble_eq_true rfl) ?_
  intro p e s m below meth c S hr hlk hB ls hl
  obtain ⟨hP, hK⟩ := hB
  have hl : lv_has ls 5 [(0, .ref (a 0)), (1, .int (nI w)), (2, .int (nI f))] := hl
  obtain ⟨⟨hn, hm, hf⟩, ⟨hsg, hfo, hL, hle, hsc, hli, hba, hca⟩, hv1, hv2, hv3, hv4, hv5, hv6, hv7⟩ := id hI
  refine lv_iload_n S.1 S.2.1 dX0_hasRowAt_0 rfl (lv_at hl 2 rfl) ?_
  refine n_if_lt (x := f) (tgt := 19) S dX0_hasRowAt_1 (by decide) (by omega) ?_
  refine lv_iload_n S.1 S.2.1 dX0_hasRowAt_4 rfl (lv_at hl 2 rfl) ?_
  refine lv_aload_n S.1 S.2.1 dX0_hasRowAt_5 rfl (lv_at hl 0 rfl) ?_
  refine fX0_signCount (v := .int (nI n)) S hK hP rfl rfl dX0_hasRowAt_6 ?_
  refine n_iadd (x := f) (y := n) S dX0_hasRowAt_9 ?_
  refine lv_aload_n S.1 S.2.1 dX0_hasRowAt_10 rfl (lv_at hl 0 rfl) ?_
  refine fX0_wordLengths (v := .ref (a 4)) S hK hP rfl rfl dX0_hasRowAt_11 ?_
  refine lv_iload_n S.1 S.2.1 dX0_hasRowAt_14 rfl (lv_at hl 1 rfl) ?_
  refine n_iald S hK hP 4 0 rfl rfl dX0_hasRowAt_15 (j := w) (by decide) (by omega) ?_
  have b15 := hle w
  refine n_icmp_le (x := f + n) (y := le w) (tgt := 21) S dX0_hasRowAt_16 (by decide) (by omega) (by omega) (fun h16 => ?_) (fun h16 => ?_)
  · refine lv_iconst (v := (nI 0)) S.1 S.2.1 dX0_hasRowAt_21 (by decide) ?_
    refine lv_istore_n (lv' := [(3, .int (nI 0)), (0, .ref (a 0)), (1, .int (nI w)), (2, .int (nI f))]) S.1 S.2.1 dX0_hasRowAt_22 rfl hl (by decide) rfl (fun ls hl => ?_)
    exact lX0_hasRowAt_23 l dC dI cI cZ cJ a n mw nf sg fo L le sc li ba ca st w f hI hw hf0 S hr hlk hK hP _ 0 (Nat.lt_succ_self _) h16 (by omega) (fun j hj => absurd hj (Nat.not_lt_zero j)) ls (lv_sub hl [1, 2, 3, 0] rfl)
  · refine lv_iconst (v := (nI 0)) S.1 S.2.1 dX0_hasRowAt_19 (by decide) ?_
    exact rd_ret S hr hlk (rfl) (by rw [decide_eq_false (by omega)]; rfl) dX0_hasRowAt_20

set_option maxRecDepth 100000 in
theorem kX0_hasRowAtN (l : Launch) (dC : Nat → ClassId) (dI : Nat → Nat → Nat) (cI cZ cJ : ClassId) (a : Nat → Nat) (n mw nf : Nat) (sg fo L le sc li ba ca st : Nat → Nat) (w : Nat) (x : Int32) (hI : iv n mw nf sg fo L le sc li ba ca) (hx : x < 0) : rd l yX0_hasRowAt cX0_hasRowAt 5 (some .boolean) 0 0 [.ref (a 0), .int (nI w), .int x] (rB dC dI cI cZ cJ (vX cI cZ a n mw nf sg fo L le sc li ba ca st)) (nI (0)) := by
  refine rd_ofW RX0 (by decide) rfl (Nat.le_of_ble_eq_true rfl) ?_
  intro p e s m below meth c S hr hlk hB ls hl
  obtain ⟨hP, hK⟩ := hB
  have hl : lv_has ls 5 [(0, .ref (a 0)), (1, .int (nI w)), (2, .int x)] := hl
  obtain ⟨⟨hn, hm, hf⟩, ⟨hsg, hfo, hL, hle, hsc, hli, hba, hca⟩, hv1, hv2, hv3, hv4, hv5, hv6, hv7⟩ := id hI
  refine lv_iload_n S.1 S.2.1 dX0_hasRowAt_0 rfl (lv_at hl 2 rfl) ?_
  refine lv_if_lt (tgt := 19) S.1 S.2.1 dX0_hasRowAt_1 (by decide) (fun h1 => ?_) (fun h1 => ?_)
  · refine lv_iconst (v := (nI 0)) S.1 S.2.1 dX0_hasRowAt_19 (by decide) ?_
    exact rd_ret S hr hlk (rfl) (rfl) dX0_hasRowAt_20
  · exact absurd hx h1

set_option maxRecDepth 100000 in
theorem kX0_fits (l : Launch) (dC : Nat → ClassId) (dI : Nat → Nat → Nat) (cI cZ cJ : ClassId) (a : Nat → Nat) (n mw nf : Nat) (sg fo L le sc li ba ca st : Nat → Nat) (w : Nat) (hI : iv n mw nf sg fo L le sc li ba ca) (hw : w < mw) : rd l yX0_fits cX0_fits 2 (some .boolean) 3 66 [.ref (a 0), .int (nI w)] (rB dC dI cI cZ cJ (vX cI cZ a n mw nf sg fo L le sc li ba ca st)) (nI (fit n sg fo L le w).toNat) := by
  refine rd_ofW RX0 (by decide) rfl (Nat.le_of_ble_eq_true rfl) ?_
  intro p e s m below meth c S hr hlk hB ls hl
  obtain ⟨hP, hK⟩ := hB
  have hl : lv_has ls 2 [(0, .ref (a 0)), (1, .int (nI w))] := hl
  obtain ⟨⟨hn, hm, hf⟩, ⟨hsg, hfo, hL, hle, hsc, hli, hba, hca⟩, hv1, hv2, hv3, hv4, hv5, hv6, hv7⟩ := id hI
  refine lv_aload_n S.1 S.2.1 dX0_fits_0 rfl (lv_at hl 0 rfl) ?_
  refine fX0_wordLengths (v := .ref (a 4)) S hK hP rfl rfl dX0_fits_1 ?_
  refine lv_iload_n S.1 S.2.1 dX0_fits_4 rfl (lv_at hl 1 rfl) ?_
  refine n_iald S hK hP 4 0 rfl rfl dX0_fits_5 (j := w) (by decide) (by omega) ?_
  have b5 := hle w
  refine lv_aload_n S.1 S.2.1 dX0_fits_6 rfl (lv_at hl 0 rfl) ?_
  refine fX0_signCount (v := .int (nI n)) S hK hP rfl rfl dX0_fits_7 ?_
  refine n_icmp_ne (x := le w) (y := n) (tgt := 26) S dX0_fits_10 (by decide) (by omega) (by omega) (fun h10 => ?_) (fun h10 => ?_)
  · refine lv_iconst (v := (nI 0)) S.1 S.2.1 dX0_fits_26 (by decide) ?_
    exact rd_ret S hr hlk (rfl) (by first | simp [fit, h10, h19] | simp [fit, h10]) dX0_fits_27
  · refine lv_aload_n S.1 S.2.1 dX0_fits_13 rfl (lv_at hl 0 rfl) ?_
    refine lv_iload_n S.1 S.2.1 dX0_fits_14 rfl (lv_at hl 1 rfl) ?_
    refine lv_iconst (v := (nI 0)) S.1 S.2.1 dX0_fits_15 (by decide) ?_
    refine rd_callV (C := RX0) (As := [.int (nI w), .int (nI 0)]) (rest := []) S (kX0_hasRowAt l dC dI cI cZ cJ a n mw nf sg fo L le sc li ba ca st w 0 hI (by omega) (by omega)) rB_blind (fun U hU hW => ⟨by rw [hU]; exact hP, va_K.moved hW.alike hK⟩) (va_recv hK hP (ci := 0) (q0 := 0) rfl rfl) gX0_103 hdX0_hasRowAt (by decide) hl.1 rfl (Nat.le_of_ble_eq_true rfl) dX0_fits_16 ⟨Nat.zero_le _, Nat.zero_le _⟩ ?_
    rw [show decide (0 + n ≤ le w) = true from decide_eq_true (by omega), Bool.true_and]
    refine n_bif_eq (b := mat n sg fo L w 0) (tgt := 26) S dX0_fits_19 (by decide) (fun h19 => ?_) (fun h19 => ?_)
    · refine lv_iconst (v := (nI 0)) S.1 S.2.1 dX0_fits_26 (by decide) ?_
      exact rd_ret S hr hlk (rfl) (by first | simp [fit, h10, h19] | simp [fit, h10]) dX0_fits_27
    · refine lv_iconst (v := (nI 1)) S.1 S.2.1 dX0_fits_22 (by decide) ?_
      refine lv_goto (tgt := 27) S.1 S.2.1 dX0_fits_23 (by decide) ?_
      exact rd_ret S hr hlk (rfl) (by first | simp [fit, h10, h19] | simp [fit, h10]) dX0_fits_27

set_option maxRecDepth 100000 in
theorem lX0_wordOfRow_2 (l : Launch) (dC : Nat → ClassId) (dI : Nat → Nat → Nat) (cI cZ cJ : ClassId) (a : Nat → Nat) (n mw nf : Nat) (sg fo L le sc li ba ca st : Nat → Nat) (hI : iv n mw nf sg fo L le sc li ba ca)  {p : Program} {e : Env} {s : State} {m : MethodId} {below : List Frame} {meth : Method} {c : Code} (S : CallFix p m c cX0_wordOfRow 2 s ([.ref (a 0)] : List Value).toArray tbG RX0) (hr : meth.sig.returnType = (some .int)) (hlk : meth.locks = false) (hK : va_K (dC, dI) vcl (vty cI cZ cJ) s) (hP : va_P (dC, dI) vcl (vX cI cZ a n mw nf sg fo L le sc li ba ca st) s.heap) :
    ∀ (fuel : Nat) (i : Nat), mw - i < fuel → i ≤ mw → (∀ j, j < i → fit n sg fo L le j = false) → ∀ ls : Array Slot, lv_has ls 2 [(0, .ref (a 0)), (1, .int (nI i))] → W p l e ({ frames := 4, cells := 0, slots := 0, locals := 87 } : Room) s m ([.ref (a 0)] : List Value).toArray below meth c s.heap [] 0 0 (MQ below (QcRead (wof mw (fit n sg fo L le))) [.ref (a 0)].toArray s 0 0 (fun _ => False)) (F0 m 2 ls []) := by
  obtain ⟨⟨hn, hm, hf⟩, ⟨hsg, hfo, hL, hle, hsc, hli, hba, hca⟩, hv1, hv2, hv3, hv4, hv5, hv6, hv7⟩ := id hI
  intro fuel
  induction fuel with
  | zero =>
    intro i hq
    exact absurd hq (Nat.not_lt_zero _)
  | succ fuel ih =>
    intro i hq hi hq1 ls hl
    refine lv_iload_n S.1 S.2.1 dX0_wordOfRow_2 rfl (lv_at hl 1 rfl) ?_
    refine lv_aload_n S.1 S.2.1 dX0_wordOfRow_3 rfl (lv_at hl 0 rfl) ?_
    refine fX0_wordCount (v := .int (nI mw)) S hK hP rfl rfl dX0_wordOfRow_4 ?_
    refine n_icmp_ge (x := i) (y := mw) (tgt := 26) S dX0_wordOfRow_7 (by decide) (by omega) (by omega) (fun h7 => ?_) (fun h7 => ?_)
    · refine lv_iconst (v := -1) S.1 S.2.1 dX0_wordOfRow_26 (by decide) ?_
      exact rd_ret S hr hlk (rfl) ((wof_no (fun j hj => hq1 j (by omega))).symm) dX0_wordOfRow_27
    · refine lv_aload_n S.1 S.2.1 dX0_wordOfRow_10 rfl (lv_at hl 0 rfl) ?_
      refine lv_iload_n S.1 S.2.1 dX0_wordOfRow_11 rfl (lv_at hl 1 rfl) ?_
      refine rd_callV (C := RX0) (As := [.int (nI i)]) (rest := []) S (kX0_fits l dC dI cI cZ cJ a n mw nf sg fo L le sc li ba ca st i hI (by omega)) rB_blind (fun U hU hW => ⟨by rw [hU]; exact hP, va_K.moved hW.alike hK⟩) (va_recv hK hP (ci := 0) (q0 := 0) rfl rfl) gX0_76 hdX0_fits (by decide) hl.1 rfl (Nat.le_of_ble_eq_true rfl) dX0_wordOfRow_12 ⟨Nat.zero_le _, Nat.zero_le _⟩ ?_
      refine n_bif_eq (b := fit n sg fo L le i) (tgt := 20) S dX0_wordOfRow_15 (by decide) (fun h15 => ?_) (fun h15 => ?_)
      · refine n_iinc (lv' := [(1, .int (nI (i + 1))), (0, .ref (a 0))]) (x := i) (k := 1) S dX0_wordOfRow_20 hl rfl (by decide) rfl (fun ls hl => ?_)
        refine lv_goto (tgt := 2) S.1 S.2.1 dX0_wordOfRow_23 (by decide) ?_
        exact ih (i + 1) (by omega) (by omega) (lt_s hq1 h15) ls (lv_sub hl [1, 0] rfl)
      · refine lv_iload_n S.1 S.2.1 dX0_wordOfRow_18 rfl (lv_at hl 1 rfl) ?_
        exact rd_ret S hr hlk (rfl) ((wof_at (by omega) hq1 h15).symm) dX0_wordOfRow_19
set_option maxRecDepth 100000 in
theorem kX0_wordOfRow (l : Launch) (dC : Nat → ClassId) (dI : Nat → Nat → Nat) (cI cZ cJ : ClassId) (a : Nat → Nat) (n mw nf : Nat) (sg fo L le sc li ba ca st : Nat → Nat) (hI : iv n mw nf sg fo L le sc li ba ca) : rd l yX0_wordOfRow cX0_wordOfRow 2 (some .int) 4 87 [.ref (a 0)] (rB dC dI cI cZ cJ (vX cI cZ a n mw nf sg fo L le sc li ba ca st)) (wof mw (fit n sg fo L le)) := by
  refine rd_ofW RX0 (by decide) rfl (Nat.le_of_ble_eq_true rfl) ?_
  intro p e s m below meth c S hr hlk hB ls hl
  obtain ⟨hP, hK⟩ := hB
  have hl : lv_has ls 2 [(0, .ref (a 0))] := hl
  obtain ⟨⟨hn, hm, hf⟩, ⟨hsg, hfo, hL, hle, hsc, hli, hba, hca⟩, hv1, hv2, hv3, hv4, hv5, hv6, hv7⟩ := id hI
  refine lv_iconst (v := (nI 0)) S.1 S.2.1 dX0_wordOfRow_0 (by decide) ?_
  refine lv_istore_n (lv' := [(1, .int (nI 0)), (0, .ref (a 0))]) S.1 S.2.1 dX0_wordOfRow_1 rfl hl (by decide) rfl (fun ls hl => ?_)
  exact lX0_wordOfRow_2 l dC dI cI cZ cJ a n mw nf sg fo L le sc li ba ca st hI S hr hlk hK hP _ 0 (Nat.lt_succ_self _) (by omega) (fun j hj => absurd hj (Nat.not_lt_zero j)) ls (lv_sub hl [1, 0] rfl)

set_option maxRecDepth 100000 in
theorem lX0_rowHasBlank_2 (l : Launch) (dC : Nat → ClassId) (dI : Nat → Nat → Nat) (cI cZ cJ : ClassId) (a : Nat → Nat) (n mw nf : Nat) (sg fo L le sc li ba ca st : Nat → Nat) (hI : iv n mw nf sg fo L le sc li ba ca)  {p : Program} {e : Env} {s : State} {m : MethodId} {below : List Frame} {meth : Method} {c : Code} (S : CallFix p m c cX0_rowHasBlank 2 s ([.ref (a 0)] : List Value).toArray tbG RX0) (hr : meth.sig.returnType = (some .boolean)) (hlk : meth.locks = false) (hK : va_K (dC, dI) vcl (vty cI cZ cJ) s) (hP : va_P (dC, dI) vcl (vX cI cZ a n mw nf sg fo L le sc li ba ca st) s.heap) :
    ∀ (fuel : Nat) (i : Nat), n - i < fuel → i ≤ n → (∀ j, j < i → sg j ≠ 63) → ∀ ls : Array Slot, lv_has ls 2 [(0, .ref (a 0)), (1, .int (nI i))] → W p l e ({ frames := 0, cells := 0, slots := 0, locals := 0 } : Room) s m ([.ref (a 0)] : List Value).toArray below meth c s.heap [] 0 0 (MQ below (QcRead (nI (hbl n sg).toNat)) [.ref (a 0)].toArray s 0 0 (fun _ => False)) (F0 m 2 ls []) := by
  obtain ⟨⟨hn, hm, hf⟩, ⟨hsg, hfo, hL, hle, hsc, hli, hba, hca⟩, hv1, hv2, hv3, hv4, hv5, hv6, hv7⟩ := id hI
  intro fuel
  induction fuel with
  | zero =>
    intro i hq
    exact absurd hq (Nat.not_lt_zero _)
  | succ fuel ih =>
    intro i hq hi hq1 ls hl
    refine lv_iload_n S.1 S.2.1 dX0_rowHasBlank_2 rfl (lv_at hl 1 rfl) ?_
    refine lv_aload_n S.1 S.2.1 dX0_rowHasBlank_3 rfl (lv_at hl 0 rfl) ?_
    refine fX0_signCount (v := .int (nI n)) S hK hP rfl rfl dX0_rowHasBlank_4 ?_
    refine n_icmp_ge (x := i) (y := n) (tgt := 29) S dX0_rowHasBlank_7 (by decide) (by omega) (by omega) (fun h7 => ?_) (fun h7 => ?_)
    · refine lv_iconst (v := (nI 0)) S.1 S.2.1 dX0_rowHasBlank_29 (by decide) ?_
      exact rd_ret S hr hlk (rfl) (by rw [hbl, decide_eq_false (fun ⟨j, a, b⟩ => hq1 j (by omega) b)]; rfl) dX0_rowHasBlank_30
    · refine lv_aload_n S.1 S.2.1 dX0_rowHasBlank_10 rfl (lv_at hl 0 rfl) ?_
      refine fX0_signs (v := .ref (a 1)) S hK hP rfl rfl dX0_rowHasBlank_11 ?_
      refine lv_iload_n S.1 S.2.1 dX0_rowHasBlank_14 rfl (lv_at hl 1 rfl) ?_
      refine n_iald S hK hP 1 0 rfl rfl dX0_rowHasBlank_15 (j := i) (by decide) (by omega) ?_
      have b15 := hsg i
      refine lv_bipush (v := (nI 63)) S.1 S.2.1 dX0_rowHasBlank_16 (by decide) ?_
      refine n_icmp_ne (x := sg i) (y := 63) (tgt := 23) S dX0_rowHasBlank_18 (by decide) (by omega) (by omega) (fun h18 => ?_) (fun h18 => ?_)
      · refine n_iinc (lv' := [(1, .int (nI (i + 1))), (0, .ref (a 0))]) (x := i) (k := 1) S dX0_rowHasBlank_23 hl rfl (by decide) rfl (fun ls hl => ?_)
        refine lv_goto (tgt := 2) S.1 S.2.1 dX0_rowHasBlank_26 (by decide) ?_
        exact ih (i + 1) (by omega) (by omega) (lt_s hq1 h18) ls (lv_sub hl [1, 0] rfl)
      · refine lv_iconst (v := (nI 1)) S.1 S.2.1 dX0_rowHasBlank_21 (by decide) ?_
        exact rd_ret S hr hlk (rfl) (by rw [hbl, decide_eq_true ⟨i, by omega, h18⟩]; rfl) dX0_rowHasBlank_22
set_option maxRecDepth 100000 in
theorem kX0_rowHasBlank (l : Launch) (dC : Nat → ClassId) (dI : Nat → Nat → Nat) (cI cZ cJ : ClassId) (a : Nat → Nat) (n mw nf : Nat) (sg fo L le sc li ba ca st : Nat → Nat) (hI : iv n mw nf sg fo L le sc li ba ca) : rd l yX0_rowHasBlank cX0_rowHasBlank 2 (some .boolean) 0 0 [.ref (a 0)] (rB dC dI cI cZ cJ (vX cI cZ a n mw nf sg fo L le sc li ba ca st)) (nI (hbl n sg).toNat) := by
  refine rd_ofW RX0 (by decide) rfl (Nat.le_of_ble_eq_true rfl) ?_
  intro p e s m below meth c S hr hlk hB ls hl
  obtain ⟨hP, hK⟩ := hB
  have hl : lv_has ls 2 [(0, .ref (a 0))] := hl
  obtain ⟨⟨hn, hm, hf⟩, ⟨hsg, hfo, hL, hle, hsc, hli, hba, hca⟩, hv1, hv2, hv3, hv4, hv5, hv6, hv7⟩ := id hI
  refine lv_iconst (v := (nI 0)) S.1 S.2.1 dX0_rowHasBlank_0 (by decide) ?_
  refine lv_istore_n (lv' := [(1, .int (nI 0)), (0, .ref (a 0))]) S.1 S.2.1 dX0_rowHasBlank_1 rfl hl (by decide) rfl (fun ls hl => ?_)
  exact lX0_rowHasBlank_2 l dC dI cI cZ cJ a n mw nf sg fo L le sc li ba ca st hI S hr hlk hK hP _ 0 (Nat.lt_succ_self _) (by omega) (fun j hj => absurd hj (Nat.not_lt_zero j)) ls (lv_sub hl [1, 0] rfl)

set_option maxRecDepth 100000 in
theorem kX0_isOf (l : Launch) (dC : Nat → ClassId) (dI : Nat → Nat → Nat) (cI cZ cJ : ClassId) (a : Nat → Nat) (n mw nf : Nat) (sg fo L le sc li ba ca st : Nat → Nat) (w : Nat) (t : Nat) (hI : iv n mw nf sg fo L le sc li ba ca) (hw : w < 250) (ht : t < 4) : rd l yX0_isOf cX0_isOf 3 (some .boolean) 0 0 [.ref (a 0), .int (nI w), .int (nI t)] (rB dC dI cI cZ cJ (vX cI cZ a n mw nf sg fo L le sc li ba ca st)) (nI (inl li w t).toNat) := by
  refine rd_ofW RX0 (by decide) rfl (Nat.le_of_ble_eq_true rfl) ?_
  intro p e s m below meth c S hr hlk hB ls hl
  obtain ⟨hP, hK⟩ := hB
  have hl : lv_has ls 3 [(0, .ref (a 0)), (1, .int (nI w)), (2, .int (nI t))] := hl
  obtain ⟨⟨hn, hm, hf⟩, ⟨hsg, hfo, hL, hle, hsc, hli, hba, hca⟩, hv1, hv2, hv3, hv4, hv5, hv6, hv7⟩ := id hI
  refine lv_aload_n S.1 S.2.1 dX0_isOf_0 rfl (lv_at hl 0 rfl) ?_
  refine fX0_wordListBits (v := .ref (a 6)) S hK hP rfl rfl dX0_isOf_1 ?_
  refine lv_iload_n S.1 S.2.1 dX0_isOf_4 rfl (lv_at hl 1 rfl) ?_
  refine n_iald S hK hP 6 0 rfl rfl dX0_isOf_5 (j := w) (by decide) (by omega) ?_
  have b5 := hli w
  refine lv_iconst (v := (nI 1)) S.1 S.2.1 dX0_isOf_6 (by decide) ?_
  refine lv_iload_n S.1 S.2.1 dX0_isOf_7 rfl (lv_at hl 2 rfl) ?_
  refine lv_ishl S.1 S.2.1 dX0_isOf_8 ?_
  refine lv_iand S.1 S.2.1 dX0_isOf_9 ?_
  have hb := (tb_lt (li w) (by omega) t ht).1
  refine lv_if_eq (tgt := 17) S.1 S.2.1 dX0_isOf_10 (by decide) (fun h10 => ?_) (fun h10 => ?_)
  · refine lv_iconst (v := (nI 0)) S.1 S.2.1 dX0_isOf_17 (by decide) ?_
    exact rd_ret S hr hlk (rfl) (by first | (rw [inl, hb.mp h10]; rfl) | (rw [inl, show (li w).testBit t = true from by cases hc : (li w).testBit t with | false => exact absurd (hb.mpr hc) h10 | true => rfl]; rfl)) dX0_isOf_18
  · refine lv_iconst (v := (nI 1)) S.1 S.2.1 dX0_isOf_13 (by decide) ?_
    refine lv_goto (tgt := 18) S.1 S.2.1 dX0_isOf_14 (by decide) ?_
    exact rd_ret S hr hlk (rfl) (by first | (rw [inl, hb.mp h10]; rfl) | (rw [inl, show (li w).testBit t = true from by cases hc : (li w).testBit t with | false => exact absurd (hb.mpr hc) h10 | true => rfl]; rfl)) dX0_isOf_18

set_option maxRecDepth 100000 in
theorem kX0_isFreeIn (l : Launch) (dC : Nat → ClassId) (dI : Nat → Nat → Nat) (cI cZ cJ : ClassId) (a : Nat → Nat) (n mw nf : Nat) (sg fo L le sc li ba ca st : Nat → Nat) (w : Nat) (t : Nat) (hI : iv n mw nf sg fo L le sc li ba ca) (hw : w < 250) (ht : t < 4) : rd l yX0_isFreeIn cX0_isFreeIn 3 (some .boolean) 1 22 [.ref (a 0), .int (nI w), .int (nI t)] (rB dC dI cI cZ cJ (vX cI cZ a n mw nf sg fo L le sc li ba ca st)) (nI (fre li ba t w).toNat) := by
  refine rd_ofW RX0 (by decide) rfl (Nat.le_of_ble_eq_true rfl) ?_
  intro p e s m below meth c S hr hlk hB ls hl
  obtain ⟨hP, hK⟩ := hB
  have hl : lv_has ls 3 [(0, .ref (a 0)), (1, .int (nI w)), (2, .int (nI t))] := hl
  obtain ⟨⟨hn, hm, hf⟩, ⟨hsg, hfo, hL, hle, hsc, hli, hba, hca⟩, hv1, hv2, hv3, hv4, hv5, hv6, hv7⟩ := id hI
  refine lv_aload_n S.1 S.2.1 dX0_isFreeIn_0 rfl (lv_at hl 0 rfl) ?_
  refine lv_iload_n S.1 S.2.1 dX0_isFreeIn_1 rfl (lv_at hl 1 rfl) ?_
  refine lv_iload_n S.1 S.2.1 dX0_isFreeIn_2 rfl (lv_at hl 2 rfl) ?_
  refine rd_callV (C := RX0) (As := [.int (nI w), .int (nI t)]) (rest := []) S (kX0_isOf l dC dI cI cZ cJ a n mw nf sg fo L le sc li ba ca st w t hI (by omega) (by omega)) rB_blind (fun U hU hW => ⟨by rw [hU]; exact hP, va_K.moved hW.alike hK⟩) (va_recv hK hP (ci := 0) (q0 := 0) rfl rfl) gX0_79 hdX0_isOf (by decide) hl.1 rfl (Nat.le_of_ble_eq_true rfl) dX0_isFreeIn_3 ⟨Nat.zero_le _, Nat.zero_le _⟩ ?_
  refine n_bif_eq (b := inl li w t) (tgt := 22) S dX0_isFreeIn_6 (by decide) (fun h6 => ?_) (fun h6 => ?_)
  · refine lv_iconst (v := (nI 0)) S.1 S.2.1 dX0_isFreeIn_22 (by decide) ?_
    exact rd_ret S hr hlk (rfl) (by first | simp [fre, h6, h15] | simp [fre, h6]) dX0_isFreeIn_23
  · refine lv_aload_n S.1 S.2.1 dX0_isFreeIn_9 rfl (lv_at hl 0 rfl) ?_
    refine fX0_wordBarred (v := .ref (a 7)) S hK hP rfl rfl dX0_isFreeIn_10 ?_
    refine lv_iload_n S.1 S.2.1 dX0_isFreeIn_13 rfl (lv_at hl 1 rfl) ?_
    refine n_zald S hK hP 7 1 rfl rfl dX0_isFreeIn_14 (j := w) (by decide) (by omega) ?_
    have b14 := hba w
    refine n_if_ne (x := ba w) (tgt := 22) S dX0_isFreeIn_15 (by decide) (by omega) (fun h15 => ?_) (fun h15 => ?_)
    · refine lv_iconst (v := (nI 0)) S.1 S.2.1 dX0_isFreeIn_22 (by decide) ?_
      exact rd_ret S hr hlk (rfl) (by first | simp [fre, h6, h15] | simp [fre, h6]) dX0_isFreeIn_23
    · refine lv_iconst (v := (nI 1)) S.1 S.2.1 dX0_isFreeIn_18 (by decide) ?_
      refine lv_goto (tgt := 23) S.1 S.2.1 dX0_isFreeIn_19 (by decide) ?_
      exact rd_ret S hr hlk (rfl) (by first | simp [fre, h6, h15] | simp [fre, h6]) dX0_isFreeIn_23

set_option maxRecDepth 100000 in
theorem kX0_isChosen (l : Launch) (hw : Nat) (o : Bool) (q : Bool) (hh : hw < 3) : rd l yX0_isChosen cX0_isChosen 3 (some .boolean) 0 0 [.int (nI hw), .int (nI o.toNat), .int (nI q.toNat)] (fun _ => True) (nI (cho hw o q).toNat) := by
  refine rd_ofW RX0 (by decide) rfl (Nat.le_of_ble_eq_true rfl) ?_
  intro p e s m below meth c S hr hlk hB ls hl
  have hl : lv_has ls 3 [(0, .int (nI hw)), (1, .int (nI (o).toNat)), (2, .int (nI (q).toNat))] := hl
  refine lv_iload_n S.1 S.2.1 dX0_isChosen_0 rfl (lv_at hl 0 rfl) ?_
  refine n_if_ne (x := hw) (tgt := 18) S dX0_isChosen_1 (by decide) (by omega) (fun h1 => ?_) (fun h1 => ?_)
  · refine lv_iload_n S.1 S.2.1 dX0_isChosen_18 rfl (lv_at hl 0 rfl) ?_
    refine lv_iconst (v := (nI 1)) S.1 S.2.1 dX0_isChosen_19 (by decide) ?_
    refine n_icmp_ne (x := hw) (y := 1) (tgt := 37) S dX0_isChosen_20 (by decide) (by omega) (by omega) (fun h20 => ?_) (fun h20 => ?_)
    · refine lv_iload_n S.1 S.2.1 dX0_isChosen_37 rfl (lv_at hl 1 rfl) ?_
      refine n_bif_eq (b := o) (tgt := 49) S dX0_isChosen_38 (by decide) (fun h38 => ?_) (fun h38 => ?_)
      · refine lv_iconst (v := (nI 0)) S.1 S.2.1 dX0_isChosen_49 (by decide) ?_
        exact rd_ret S hr hlk (rfl) (by first | simp [cho, h1, h20, h38, h42] | simp [cho, h1, h20, h38]) dX0_isChosen_50
      · refine lv_iload_n S.1 S.2.1 dX0_isChosen_41 rfl (lv_at hl 2 rfl) ?_
        refine n_bif_ne (b := q) (tgt := 49) S dX0_isChosen_42 (by decide) (fun h42 => ?_) (fun h42 => ?_)
        · refine lv_iconst (v := (nI 0)) S.1 S.2.1 dX0_isChosen_49 (by decide) ?_
          exact rd_ret S hr hlk (rfl) (by first | simp [cho, h1, h20, h38, h42] | simp [cho, h1, h20, h38]) dX0_isChosen_50
        · refine lv_iconst (v := (nI 1)) S.1 S.2.1 dX0_isChosen_45 (by decide) ?_
          refine lv_goto (tgt := 50) S.1 S.2.1 dX0_isChosen_46 (by decide) ?_
          exact rd_ret S hr hlk (rfl) (by first | simp [cho, h1, h20, h38, h42] | simp [cho, h1, h20, h38]) dX0_isChosen_50
    · refine lv_iload_n S.1 S.2.1 dX0_isChosen_23 rfl (lv_at hl 1 rfl) ?_
      refine n_bif_eq (b := o) (tgt := 35) S dX0_isChosen_24 (by decide) (fun h24 => ?_) (fun h24 => ?_)
      · refine lv_iconst (v := (nI 0)) S.1 S.2.1 dX0_isChosen_35 (by decide) ?_
        exact rd_ret S hr hlk (rfl) (by first | simp [cho, h1, h20, h24, h28] | simp [cho, h1, h20, h24]) dX0_isChosen_36
      · refine lv_iload_n S.1 S.2.1 dX0_isChosen_27 rfl (lv_at hl 2 rfl) ?_
        refine n_bif_eq (b := q) (tgt := 35) S dX0_isChosen_28 (by decide) (fun h28 => ?_) (fun h28 => ?_)
        · refine lv_iconst (v := (nI 0)) S.1 S.2.1 dX0_isChosen_35 (by decide) ?_
          exact rd_ret S hr hlk (rfl) (by first | simp [cho, h1, h20, h24, h28] | simp [cho, h1, h20, h24]) dX0_isChosen_36
        · refine lv_iconst (v := (nI 1)) S.1 S.2.1 dX0_isChosen_31 (by decide) ?_
          refine lv_goto (tgt := 36) S.1 S.2.1 dX0_isChosen_32 (by decide) ?_
          exact rd_ret S hr hlk (rfl) (by first | simp [cho, h1, h20, h24, h28] | simp [cho, h1, h20, h24]) dX0_isChosen_36
  · refine lv_iload_n S.1 S.2.1 dX0_isChosen_4 rfl (lv_at hl 1 rfl) ?_
    refine n_bif_ne (b := o) (tgt := 12) S dX0_isChosen_5 (by decide) (fun h5 => ?_) (fun h5 => ?_)
    · refine lv_iconst (v := (nI 1)) S.1 S.2.1 dX0_isChosen_12 (by decide) ?_
      refine lv_goto (tgt := 17) S.1 S.2.1 dX0_isChosen_13 (by decide) ?_
      exact rd_ret S hr hlk (rfl) (by first | simp [cho, h1, h5, h9] | simp [cho, h1, h5]) dX0_isChosen_17
    · refine lv_iload_n S.1 S.2.1 dX0_isChosen_8 rfl (lv_at hl 2 rfl) ?_
      refine n_bif_eq (b := q) (tgt := 16) S dX0_isChosen_9 (by decide) (fun h9 => ?_) (fun h9 => ?_)
      · refine lv_iconst (v := (nI 0)) S.1 S.2.1 dX0_isChosen_16 (by decide) ?_
        exact rd_ret S hr hlk (rfl) (by first | simp [cho, h1, h5, h9] | simp [cho, h1, h5]) dX0_isChosen_17
      · refine lv_iconst (v := (nI 1)) S.1 S.2.1 dX0_isChosen_12 (by decide) ?_
        refine lv_goto (tgt := 17) S.1 S.2.1 dX0_isChosen_13 (by decide) ?_
        exact rd_ret S hr hlk (rfl) (by first | simp [cho, h1, h5, h9] | simp [cho, h1, h5]) dX0_isChosen_17
end
section
/-! ===== the class: readers, second part ===== -/
/-- how often letter y is in word w -/
def tiw (L le : Nat → Nat) (y w : Nat) : Nat := cnt (fun j => decide (L (15 * w + j) = y)) (le w)
/-- w goes ahead of v -/
def ahd (L sc : Nat → Nat) (w v : Nat) : Bool := if sc w = sc v then decide (lcp (fun j => L (15 * w + j)) (fun j => L (15 * v + j)) 15 < 15) && decide (L (15 * w + lcp (fun j => L (15 * w + j)) (fun j => L (15 * v + j)) 15) < L (15 * v + lcp (fun j => L (15 * w + j)) (fun j => L (15 * v + j)) 15)) else decide (sc v < sc w)
theorem lcp_spec (f g : Nat → Nat) (b : Nat) : (∀ j, j < lcp f g b → f j = g j) ∧ (lcp f g b = b ∨ f (lcp f g b) ≠ g (lcp f g b)) := by
  induction b with
  | zero => exact ⟨fun j h => absurd h (Nat.not_lt_zero j), Or.inl rfl⟩
  | succ b ih =>
    simp only [lcp]
    by_cases q : lcp f g b = b ∧ f b = g b
    · rw [if_pos q]
      exact ⟨fun j hj => by
        by_cases z : j = b
        · rw [z]; exact q.2
        · exact ih.1 j (by rw [q.1]; omega), Or.inl rfl⟩
    · rw [if_neg q]
      refine ⟨ih.1, Or.inr ?_⟩
      rcases ih.2 with z | z
      · rw [z]; exact fun y => q ⟨z, y⟩
      · exact z
theorem ahd_eq {n mw nf : Nat} {sg fo L le sc li ba ca : Nat → Nat} (hI : iv n mw nf sg fo L le sc li ba ca) {w v i : Nat} (hw : w < mw) (hv : v < mw) (hwv : le w = le v) (hs : sc w = sc v) (ei : i = lcp (fun j => L (15 * w + j)) (fun j => L (15 * v + j)) (min (le w) (le v))) : ahd L sc w v = decide (lon L le w (nI i) < lon L le v (nI i)) := by
  obtain ⟨⟨hn, hm, hf⟩, ⟨hsg, hfo, hL, hle, hsc, hli, hba, hca⟩, hv1, hv2, hv3, hv4, hv5, hv6, hv7⟩ := id hI
  have hb := hle w
  have hb2 := hle v
  obtain ⟨s1, s2⟩ := lcp_spec (fun j => L (15 * w + j)) (fun j => L (15 * v + j)) (min (le w) (le v))
  have s0 := lcp_le (fun j => L (15 * w + j)) (fun j => L (15 * v + j)) (min (le w) (le v))
  rw [← ei] at s0 s1 s2
  by_cases q : i = min (le w) (le v)
  · have e1 : lcp (fun j => L (15 * w + j)) (fun j => L (15 * v + j)) 15 = 15 := lcp_at (Nat.le_refl _) (fun j hj => by
      by_cases z : j < le w
      · exact s1 j (by omega)
      · show L (15 * w + j) = L (15 * v + j)
        rw [hv5 w j (by omega) hj (Or.inr (by omega)), hv5 v j (by omega) hj (Or.inr (by omega))]) (Or.inl rfl)
    rw [ahd, if_pos hs, e1, lon_out (by omega) (by omega), lon_out (by omega) (by omega)]
    rfl
  · have e1 : lcp (fun j => L (15 * w + j)) (fun j => L (15 * v + j)) 15 = i := lcp_at (by omega) s1 (s2.elim (fun z => absurd z q) Or.inr)
    have a1 := hL (15 * w + i)
    have a2 := hL (15 * v + i)
    rw [ahd, if_pos hs, e1, lon_in (by omega) (hle w), lon_in (by omega) (hle v), decide_eq_true (show i < 15 by omega), Bool.true_and]
    simp only [nI_ltI (show L (15 * w + i) < 2 ^ 31 by omega) (show L (15 * v + i) < 2 ^ 31 by omega)]
def atP (L le ca : Nat → Nat) (x : Int32) (y k : Nat) : Bool := decide (lon L le (ca k) x = nI y)
def bgn (n : Nat) (sg fo L le li ba : Nat → Nat) (t w : Nat) : Bool := fre li ba t w && (decide (n ≤ le w) && mat n sg fo L w 0)
def edn (n : Nat) (sg fo L le li ba : Nat → Nat) (t w : Nat) : Bool := fre li ba t w && (decide (n ≤ le w) && mat n sg fo L w (le w - n))
def mnP (le li : Nat → Nat) (t : Nat) (y : Int32) (w : Nat) : Bool := inl li w t && decide (nI (le w) = y)
def mny (le li : Nat → Nat) (mw t : Nat) (y : Int32) : Int32 := if y < nI 1 ∨ nI 15 < y then -1 else nI (cnt (mnP le li t y) mw)
def ltF (L le li : Nat → Nat) (t y w : Nat) : Nat := if inl li w t = true then tiw L le y w else 0
def tel (le sc li ba : Nat → Nat) (w : Nat) (x : Int32) : Int32 := if x = nI 0 then nI (sc w) else if x = nI 1 then nI (li w) else if x = nI 2 then nI (ba w) else if x = nI 3 then nI (le w) else -1
def ffo (f : Nat) : Int32 := if f = 0 then -1 else nI (f - 1)
theorem ffo_z {f : Nat} (h : ffo f = -1) (hf : f ≤ 250) : f = 0 := by
  by_cases q : f = 0
  · exact q
  · rw [ffo, if_neg q] at h
    have := congrArg Int32.toInt h
    rw [nI_toInt (by omega)] at this
    have e1 : (-1 : Int32).toInt = -1 := by decide
    rw [e1] at this
    omega
def cmn (L le li ba : Nat → Nat) (t : Nat) : Nat → Nat × Nat
  | 0 => (0, 0)
  | w + 1 => match cmn L le li ba t w, fre li ba t w with
    | (f, k), true => if f = 0 then (w + 1, le w) else (f, min k (lcp (fun j => L (15 * (f - 1) + j)) (fun j => L (15 * w + j)) (min (le (f - 1)) (le w))))
    | (f, k), false => (f, k)
theorem tb_out4 {x : Int32} (h : ¬ x = nI 0 ∧ ¬ x = nI 1 ∧ ¬ x = nI 2 ∧ ¬ x = nI 3) : x.toInt < 0 ∨ (3 : Int) < x.toInt := by
  obtain ⟨h0, h1, h2, h3⟩ := h
  have n0 := lv_neT h0 (show (nI 0).toInt = 0 by decide)
  have n1 := lv_neT h1 (show (nI 1).toInt = 1 by decide)
  have n2 := lv_neT h2 (show (nI 2).toInt = 2 by decide)
  have n3 := lv_neT h3 (show (nI 3).toInt = 3 by decide)
  omega
set_option maxRecDepth 100000 in
theorem kX0_needLetter (l : Launch) (y : Nat) (hy : 97 ≤ y ∧ y ≤ 122) : rdv l yX0_needLetter cX0_needLetter 1 none 1 20 [.int (nI y)] (fun _ => True) := by
  refine rdv_ofW RX0 (by decide) rfl (Nat.le_of_ble_eq_true rfl) ?_
  intro p e s m below meth c S hr hlk hB ls hl
  have hl : lv_has ls 1 [(0, .int (nI y))] := hl
  refine lv_iload_n S.1 S.2.1 dX0_needLetter_0 rfl (lv_at hl 0 rfl) ?_
  refine rd_callS (As := [.int (nI y)]) (rest := []) S (kX0_isLetter l ((nI y))) tr_blind (fun _ _ _ => trivial) gX0_48 hdX0_isLetter (by decide) hl.1 rfl (Nat.le_of_ble_eq_true rfl) dX0_needLetter_1 ⟨Nat.zero_le _, Nat.zero_le _⟩ ?_
  rw [isL_n (by omega)]
  refine n_bif_ne (b := (decide (97 ≤ y) && decide (y < 123))) (tgt := 17) S dX0_needLetter_4 (by decide) (fun h4 => ?_) (fun h4 => ?_)
  · exact rdv_ret S hr hlk dX0_needLetter_17
  · exact absurd h4 (by simp; omega)

set_option maxRecDepth 100000 in
theorem kX0_needList (l : Launch) (t : Nat) (ht : t < 4) : rdv l yX0_needList cX0_needList 1 none 0 0 [.int (nI t)] (fun _ => True) := by
  refine rdv_ofW RX0 (by decide) rfl (Nat.le_of_ble_eq_true rfl) ?_
  intro p e s m below meth c S hr hlk hB ls hl
  have hl : lv_has ls 1 [(0, .int (nI t))] := hl
  refine lv_iload_n S.1 S.2.1 dX0_needList_0 rfl (lv_at hl 0 rfl) ?_
  refine n_if_lt (x := t) (tgt := 9) S dX0_needList_1 (by decide) (by omega) ?_
  refine lv_iload_n S.1 S.2.1 dX0_needList_4 rfl (lv_at hl 0 rfl) ?_
  refine lv_iconst (v := (nI 4)) S.1 S.2.1 dX0_needList_5 (by decide) ?_
  refine n_icmp_lt (x := t) (y := 4) (tgt := 19) S dX0_needList_6 (by decide) (by omega) (by omega) (fun h6 => ?_) (fun h6 => ?_)
  · exact rdv_ret S hr hlk dX0_needList_19
  · exact absurd ht (by omega)

set_option maxRecDepth 100000 in
theorem kX0_needWord (l : Launch) (dC : Nat → ClassId) (dI : Nat → Nat → Nat) (cI cZ cJ : ClassId) (a : Nat → Nat) (n mw nf : Nat) (sg fo L le sc li ba ca st : Nat → Nat) (w : Nat) (hI : iv n mw nf sg fo L le sc li ba ca) (hw : w < mw) : rdv l yX0_needWord cX0_needWord 2 none 0 0 [.ref (a 0), .int (nI w)] (rB dC dI cI cZ cJ (vX cI cZ a n mw nf sg fo L le sc li ba ca st)) := by
  refine rdv_ofW RX0 (by decide) rfl (Nat.le_of_ble_eq_true rfl) ?_
  intro p e s m below meth c S hr hlk hB ls hl
  obtain ⟨hP, hK⟩ := hB
  have hl : lv_has ls 2 [(0, .ref (a 0)), (1, .int (nI w))] := hl
  obtain ⟨⟨hn, hm, hf⟩, ⟨hsg, hfo, hL, hle, hsc, hli, hba, hca⟩, hv1, hv2, hv3, hv4, hv5, hv6, hv7⟩ := id hI
  refine lv_iload_n S.1 S.2.1 dX0_needWord_0 rfl (lv_at hl 1 rfl) ?_
  refine n_if_lt (x := w) (tgt := 12) S dX0_needWord_1 (by decide) (by omega) ?_
  refine lv_iload_n S.1 S.2.1 dX0_needWord_4 rfl (lv_at hl 1 rfl) ?_
  refine lv_aload_n S.1 S.2.1 dX0_needWord_5 rfl (lv_at hl 0 rfl) ?_
  refine fX0_wordCount (v := .int (nI mw)) S hK hP rfl rfl dX0_needWord_6 ?_
  refine n_icmp_lt (x := w) (y := mw) (tgt := 22) S dX0_needWord_9 (by decide) (by omega) (by omega) (fun h9 => ?_) (fun h9 => ?_)
  · exact rdv_ret S hr hlk dX0_needWord_22
  · exact absurd hw (by omega)

set_option maxRecDepth 100000 in
theorem lX0_timesInWord_5 (l : Launch) (dC : Nat → ClassId) (dI : Nat → Nat → Nat) (cI cZ cJ : ClassId) (a : Nat → Nat) (n mw nf : Nat) (sg fo L le sc li ba ca st : Nat → Nat) (w : Nat) (y : Nat) (hI : iv n mw nf sg fo L le sc li ba ca) (hw : w < 250) (hy : y ≤ 122)  {p : Program} {e : Env} {s : State} {m : MethodId} {below : List Frame} {meth : Method} {c : Code} (S : CallFix p m c cX0_timesInWord 5 s ([.ref (a 0), .int (nI w), .int (nI y)] : List Value).toArray tbG RX0) (hr : meth.sig.returnType = (some .int)) (hlk : meth.locks = false) (hK : va_K (dC, dI) vcl (vty cI cZ cJ) s) (hP : va_P (dC, dI) vcl (vX cI cZ a n mw nf sg fo L le sc li ba ca st) s.heap) :
    ∀ (fuel : Nat) (i : Nat) (k : Nat), le w - i < fuel → i ≤ le w → k = cnt (fun j => decide (L (15 * w + j) = y)) i → ∀ ls : Array Slot, lv_has ls 5 [(0, .ref (a 0)), (1, .int (nI w)), (2, .int (nI y)), (3, .int (nI k)), (4, .int (nI i))] → W p l e ({ frames := 1, cells := 0, slots := 0, locals := 22 } : Room) s m ([.ref (a 0), .int (nI w), .int (nI y)] : List Value).toArray below meth c s.heap [] 0 0 (MQ below (QcRead (nI (tiw L le y w))) [.ref (a 0), .int (nI w), .int (nI y)].toArray s 0 0 (fun _ => False)) (F0 m 5 ls []) := by
  obtain ⟨⟨hn, hm, hf⟩, ⟨hsg, hfo, hL, hle, hsc, hli, hba, hca⟩, hv1, hv2, hv3, hv4, hv5, hv6, hv7⟩ := id hI
  intro fuel
  induction fuel with
  | zero =>
    intro i k hq
    exact absurd hq (Nat.not_lt_zero _)
  | succ fuel ih =>
    intro i k hq hi hk ls hl
    have hlew := hle w
    have hki := cnt_le (fun j => decide (L (15 * w + j) = y)) i
    refine lv_iload S.1 S.2.1 dX0_timesInWord_5 (lv_at hl 4 rfl) ?_
    refine lv_aload_n S.1 S.2.1 dX0_timesInWord_7 rfl (lv_at hl 0 rfl) ?_
    refine fX0_wordLengths (v := .ref (a 4)) S hK hP rfl rfl dX0_timesInWord_8 ?_
    refine lv_iload_n S.1 S.2.1 dX0_timesInWord_11 rfl (lv_at hl 1 rfl) ?_
    refine n_iald S hK hP 4 0 rfl rfl dX0_timesInWord_12 (j := w) (by decide) (by omega) ?_
    have b12 := hle w
    refine n_icmp_ge (x := i) (y := le w) (tgt := 36) S dX0_timesInWord_13 (by decide) (by omega) (by omega) (fun h13 => ?_) (fun h13 => ?_)
    · refine lv_iload_n S.1 S.2.1 dX0_timesInWord_36 rfl (lv_at hl 3 rfl) ?_
      exact rd_ret S hr hlk (rfl) (by rw [hk, tiw, show le w = i by omega]) dX0_timesInWord_37
    · refine lv_aload_n S.1 S.2.1 dX0_timesInWord_16 rfl (lv_at hl 0 rfl) ?_
      refine lv_iload_n S.1 S.2.1 dX0_timesInWord_17 rfl (lv_at hl 1 rfl) ?_
      refine lv_iload S.1 S.2.1 dX0_timesInWord_18 (lv_at hl 4 rfl) ?_
      refine rd_callV (C := RX0) (As := [.int (nI w), .int (nI i)]) (rest := []) S (kX0_letterOrNone l dC dI cI cZ cJ a n mw nf sg fo L le sc li ba ca st w (nI i) hI (by omega)) rB_blind (fun U hU hW => ⟨by rw [hU]; exact hP, va_K.moved hW.alike hK⟩) (va_recv hK hP (ci := 0) (q0 := 0) rfl rfl) gX0_100 hdX0_letterOrNone (by decide) hl.1 rfl (Nat.le_of_ble_eq_true rfl) dX0_timesInWord_20 ⟨Nat.zero_le _, Nat.zero_le _⟩ ?_
      rw [lon_in (by omega) (hle w)]
      have b20 := hL (15 * w + i)
      refine lv_iload_n S.1 S.2.1 dX0_timesInWord_23 rfl (lv_at hl 2 rfl) ?_
      refine n_icmp_ne (x := L (15 * w + i)) (y := y) (tgt := 30) S dX0_timesInWord_24 (by decide) (by omega) (by omega) (fun h24 => ?_) (fun h24 => ?_)
      · refine n_iinc (lv' := [(4, .int (nI (i + 1))), (0, .ref (a 0)), (1, .int (nI w)), (2, .int (nI y)), (3, .int (nI k))]) (x := i) (k := 4) S dX0_timesInWord_30 hl rfl (by decide) rfl (fun ls hl => ?_)
        refine lv_goto (tgt := 5) S.1 S.2.1 dX0_timesInWord_33 (by decide) ?_
        exact ih (i + 1) k (by omega) (by omega) (by rw [cnt, ← hk]; first | (rw [decide_eq_true h24]; done) | (rw [decide_eq_true h24]; rfl) | (rw [decide_eq_false h24]; rfl)) ls (lv_sub hl [1, 2, 3, 4, 0] rfl)
      · have hP1 : (decide (L (15 * w + i) = y)).toNat = 1 := by rw [decide_eq_true h24]; rfl
        refine n_iinc (lv' := [(3, .int (nI (k + 1))), (0, .ref (a 0)), (1, .int (nI w)), (2, .int (nI y)), (4, .int (nI i))]) (x := k) (k := 3) S dX0_timesInWord_27 hl rfl (by decide) rfl (fun ls hl => ?_)
        refine n_iinc (lv' := [(4, .int (nI (i + 1))), (3, .int (nI (k + 1))), (0, .ref (a 0)), (1, .int (nI w)), (2, .int (nI y))]) (x := i) (k := 4) S dX0_timesInWord_30 hl rfl (by decide) rfl (fun ls hl => ?_)
        refine lv_goto (tgt := 5) S.1 S.2.1 dX0_timesInWord_33 (by decide) ?_
        exact ih (i + 1) (k + 1) (by omega) (by omega) (by rw [cnt, ← hk]; first | (rw [decide_eq_true h24]; done) | (rw [decide_eq_true h24]; rfl) | (rw [decide_eq_false h24]; rfl)) ls (lv_sub hl [2, 3, 4, 1, 0] rfl)
set_option maxRecDepth 100000 in
theorem kX0_timesInWord (l : Launch) (dC : Nat → ClassId) (dI : Nat → Nat → Nat) (cI cZ cJ : ClassId) (a : Nat → Nat) (n mw nf : Nat) (sg fo L le sc li ba ca st : Nat → Nat) (w : Nat) (y : Nat) (hI : iv n mw nf sg fo L le sc li ba ca) (hw : w < 250) (hy : y ≤ 122) : rd l yX0_timesInWord cX0_timesInWord 5 (some .int) 1 22 [.ref (a 0), .int (nI w), .int (nI y)] (rB dC dI cI cZ cJ (vX cI cZ a n mw nf sg fo L le sc li ba ca st)) (nI (tiw L le y w)) := by
  refine rd_ofW RX0 (by decide) rfl (Nat.le_of_ble_eq_true rfl) ?_
  intro p e s m below meth c S hr hlk hB ls hl
  obtain ⟨hP, hK⟩ := hB
  have hl : lv_has ls 5 [(0, .ref (a 0)), (1, .int (nI w)), (2, .int (nI y))] := hl
  obtain ⟨⟨hn, hm, hf⟩, ⟨hsg, hfo, hL, hle, hsc, hli, hba, hca⟩, hv1, hv2, hv3, hv4, hv5, hv6, hv7⟩ := id hI
  refine lv_iconst (v := (nI 0)) S.1 S.2.1 dX0_timesInWord_0 (by decide) ?_
  refine lv_istore_n (lv' := [(3, .int (nI 0)), (0, .ref (a 0)), (1, .int (nI w)), (2, .int (nI y))]) S.1 S.2.1 dX0_timesInWord_1 rfl hl (by decide) rfl (fun ls hl => ?_)
  refine lv_iconst (v := (nI 0)) S.1 S.2.1 dX0_timesInWord_2 (by decide) ?_
  refine lv_istore (lv' := [(4, .int (nI 0)), (3, .int (nI 0)), (0, .ref (a 0)), (1, .int (nI w)), (2, .int (nI y))]) S.1 S.2.1 dX0_timesInWord_3 hl (by decide) rfl (fun ls hl => ?_)
  exact lX0_timesInWord_5 l dC dI cI cZ cJ a n mw nf sg fo L le sc li ba ca st w y hI hw hy S hr hlk hK hP _ 0 0 (Nat.lt_succ_self _) (by omega) rfl ls (lv_sub hl [2, 3, 4, 1, 0] rfl)

set_option maxRecDepth 100000 in
theorem lX0_sharedBeginning_19 (l : Launch) (dC : Nat → ClassId) (dI : Nat → Nat → Nat) (cI cZ cJ : ClassId) (a : Nat → Nat) (n mw nf : Nat) (sg fo L le sc li ba ca st : Nat → Nat) (w : Nat) (v : Nat) (hI : iv n mw nf sg fo L le sc li ba ca) (hw : w < 250) (hvv : v < 250)  {p : Program} {e : Env} {s : State} {m : MethodId} {below : List Frame} {meth : Method} {c : Code} (S : CallFix p m c cX0_sharedBeginning 5 s ([.ref (a 0), .int (nI w), .int (nI v)] : List Value).toArray tbG RX0) (hr : meth.sig.returnType = (some .int)) (hlk : meth.locks = false) (hK : va_K (dC, dI) vcl (vty cI cZ cJ) s) (hP : va_P (dC, dI) vcl (vX cI cZ a n mw nf sg fo L le sc li ba ca st) s.heap) :
    ∀ (fuel : Nat) (i : Nat), min (le w) (le v) - i < fuel → i ≤ min (le w) (le v) → (∀ j, j < i → L (15 * w + j) = L (15 * v + j)) → ∀ ls : Array Slot, lv_has ls 5 [(0, .ref (a 0)), (1, .int (nI w)), (2, .int (nI v)), (3, .int (nI (min (le w) (le v)))), (4, .int (nI i))] → W p l e ({ frames := 1, cells := 0, slots := 0, locals := 22 } : Room) s m ([.ref (a 0), .int (nI w), .int (nI v)] : List Value).toArray below meth c s.heap [] 0 0 (MQ below (QcRead (nI (lcp (fun j => L (15 * w + j)) (fun j => L (15 * v + j)) (min (le w) (le v))))) [.ref (a 0), .int (nI w), .int (nI v)].toArray s 0 0 (fun _ => False)) (F0 m 19 ls []) := by
  obtain ⟨⟨hn, hm, hf⟩, ⟨hsg, hfo, hL, hle, hsc, hli, hba, hca⟩, hv1, hv2, hv3, hv4, hv5, hv6, hv7⟩ := id hI
  intro fuel
  induction fuel with
  | zero =>
    intro i hq
    exact absurd hq (Nat.not_lt_zero _)
  | succ fuel ih =>
    intro i hq hi hq1 ls hl
    have hlew := hle w
    have hlev := hle v
    refine lv_iload S.1 S.2.1 dX0_sharedBeginning_19 (lv_at hl 4 rfl) ?_
    refine lv_iload_n S.1 S.2.1 dX0_sharedBeginning_21 rfl (lv_at hl 3 rfl) ?_
    refine n_icmp_ge (x := i) (y := min (le w) (le v)) (tgt := 48) S dX0_sharedBeginning_22 (by decide) (by omega) (by omega) (fun h22 => ?_) (fun h22 => ?_)
    · refine lv_iload S.1 S.2.1 dX0_sharedBeginning_48 (lv_at hl 4 rfl) ?_
      exact rd_ret S hr hlk (rfl) (by rw [lcp_at (by omega) hq1 (by first | exact Or.inr h39 | exact Or.inl (by omega))]) dX0_sharedBeginning_50
    · refine lv_aload_n S.1 S.2.1 dX0_sharedBeginning_25 rfl (lv_at hl 0 rfl) ?_
      refine lv_iload_n S.1 S.2.1 dX0_sharedBeginning_26 rfl (lv_at hl 1 rfl) ?_
      refine lv_iload S.1 S.2.1 dX0_sharedBeginning_27 (lv_at hl 4 rfl) ?_
      refine rd_callV (C := RX0) (As := [.int (nI w), .int (nI i)]) (rest := []) S (kX0_letterOrNone l dC dI cI cZ cJ a n mw nf sg fo L le sc li ba ca st w (nI i) hI (by omega)) rB_blind (fun U hU hW => ⟨by rw [hU]; exact hP, va_K.moved hW.alike hK⟩) (va_recv hK hP (ci := 0) (q0 := 0) rfl rfl) gX0_100 hdX0_letterOrNone (by decide) hl.1 rfl (Nat.le_of_ble_eq_true rfl) dX0_sharedBeginning_29 ⟨Nat.zero_le _, Nat.zero_le _⟩ ?_
      rw [lon_in (by omega) (hle w)]
      have b29 := hL (15 * w + i)
      refine lv_aload_n S.1 S.2.1 dX0_sharedBeginning_32 rfl (lv_at hl 0 rfl) ?_
      refine lv_iload_n S.1 S.2.1 dX0_sharedBeginning_33 rfl (lv_at hl 2 rfl) ?_
      refine lv_iload S.1 S.2.1 dX0_sharedBeginning_34 (lv_at hl 4 rfl) ?_
      refine rd_callV (C := RX0) (As := [.int (nI v), .int (nI i)]) (rest := [.int (nI (L (15 * w + i)))]) S (kX0_letterOrNone l dC dI cI cZ cJ a n mw nf sg fo L le sc li ba ca st v (nI i) hI hvv) rB_blind (fun U hU hW => ⟨by rw [hU]; exact hP, va_K.moved hW.alike hK⟩) (va_recv hK hP (ci := 0) (q0 := 0) rfl rfl) gX0_100 hdX0_letterOrNone (by decide) hl.1 rfl (Nat.le_of_ble_eq_true rfl) dX0_sharedBeginning_36 ⟨Nat.zero_le _, Nat.zero_le _⟩ ?_
      rw [lon_in (by omega) (hle v)]
      have b36 := hL (15 * v + i)
      refine n_icmp_ne (x := L (15 * w + i)) (y := L (15 * v + i)) (tgt := 48) S dX0_sharedBeginning_39 (by decide) (by omega) (by omega) (fun h39 => ?_) (fun h39 => ?_)
      · refine lv_iload S.1 S.2.1 dX0_sharedBeginning_48 (lv_at hl 4 rfl) ?_
        exact rd_ret S hr hlk (rfl) (by rw [lcp_at (by omega) hq1 (by first | exact Or.inr h39 | exact Or.inl (by omega))]) dX0_sharedBeginning_50
      · refine n_iinc (lv' := [(4, .int (nI (i + 1))), (0, .ref (a 0)), (1, .int (nI w)), (2, .int (nI v)), (3, .int (nI (min (le w) (le v))))]) (x := i) (k := 4) S dX0_sharedBeginning_42 hl rfl (by decide) rfl (fun ls hl => ?_)
        refine lv_goto (tgt := 19) S.1 S.2.1 dX0_sharedBeginning_45 (by decide) ?_
        exact ih (i + 1) (by omega) (by omega) (lt_s hq1 h39) ls (lv_sub hl [1, 2, 3, 4, 0] rfl)
set_option maxRecDepth 100000 in
theorem kX0_sharedBeginning (l : Launch) (dC : Nat → ClassId) (dI : Nat → Nat → Nat) (cI cZ cJ : ClassId) (a : Nat → Nat) (n mw nf : Nat) (sg fo L le sc li ba ca st : Nat → Nat) (w : Nat) (v : Nat) (hI : iv n mw nf sg fo L le sc li ba ca) (hw : w < 250) (hvv : v < 250) : rd l yX0_sharedBeginning cX0_sharedBeginning 5 (some .int) 1 22 [.ref (a 0), .int (nI w), .int (nI v)] (rB dC dI cI cZ cJ (vX cI cZ a n mw nf sg fo L le sc li ba ca st)) (nI (lcp (fun j => L (15 * w + j)) (fun j => L (15 * v + j)) (min (le w) (le v)))) := by
  refine rd_ofW RX0 (by decide) rfl (Nat.le_of_ble_eq_true rfl) ?_
  intro p e s m below meth c S hr hlk hB ls hl
  obtain ⟨hP, hK⟩ := hB
  have hl : lv_has ls 5 [(0, .ref (a 0)), (1, .int (nI w)), (2, .int (nI v))] := hl
  obtain ⟨⟨hn, hm, hf⟩, ⟨hsg, hfo, hL, hle, hsc, hli, hba, hca⟩, hv1, hv2, hv3, hv4, hv5, hv6, hv7⟩ := id hI
  refine lv_aload_n S.1 S.2.1 dX0_sharedBeginning_0 rfl (lv_at hl 0 rfl) ?_
  refine fX0_wordLengths (v := .ref (a 4)) S hK hP rfl rfl dX0_sharedBeginning_1 ?_
  refine lv_iload_n S.1 S.2.1 dX0_sharedBeginning_4 rfl (lv_at hl 1 rfl) ?_
  refine n_iald S hK hP 4 0 rfl rfl dX0_sharedBeginning_5 (j := w) (by decide) (by omega) ?_
  have b5 := hle w
  refine lv_aload_n S.1 S.2.1 dX0_sharedBeginning_6 rfl (lv_at hl 0 rfl) ?_
  refine fX0_wordLengths (v := .ref (a 4)) S hK hP rfl rfl dX0_sharedBeginning_7 ?_
  refine lv_iload_n S.1 S.2.1 dX0_sharedBeginning_10 rfl (lv_at hl 2 rfl) ?_
  refine n_iald S hK hP 4 0 rfl rfl dX0_sharedBeginning_11 (j := v) (by decide) (by omega) ?_
  have b11 := hle v
  refine n_min (x := le w) (y := le v) S hl.1 (by decide) (Nat.le_of_ble_eq_true rfl) ⟨Nat.zero_le _, Nat.zero_le _⟩ (by omega) (by omega) dX0_sharedBeginning_12 ?_
  refine lv_istore_n (lv' := [(3, .int (nI (min (le w) (le v)))), (0, .ref (a 0)), (1, .int (nI w)), (2, .int (nI v))]) S.1 S.2.1 dX0_sharedBeginning_15 rfl hl (by decide) rfl (fun ls hl => ?_)
  refine lv_iconst (v := (nI 0)) S.1 S.2.1 dX0_sharedBeginning_16 (by decide) ?_
  refine lv_istore (lv' := [(4, .int (nI 0)), (3, .int (nI (min (le w) (le v)))), (0, .ref (a 0)), (1, .int (nI w)), (2, .int (nI v))]) S.1 S.2.1 dX0_sharedBeginning_17 hl (by decide) rfl (fun ls hl => ?_)
  exact lX0_sharedBeginning_19 l dC dI cI cZ cJ a n mw nf sg fo L le sc li ba ca st w v hI hw hvv S hr hlk hK hP _ 0 (Nat.lt_succ_self _) (by omega) (fun j hj => absurd hj (Nat.not_lt_zero j)) ls (lv_sub hl [2, 3, 4, 1, 0] rfl)

set_option maxRecDepth 100000 in
theorem kX0_isAhead (l : Launch) (dC : Nat → ClassId) (dI : Nat → Nat → Nat) (cI cZ cJ : ClassId) (a : Nat → Nat) (n mw nf : Nat) (sg fo L le sc li ba ca st : Nat → Nat) (w : Nat) (v : Nat) (hI : iv n mw nf sg fo L le sc li ba ca) (hw : w < mw) (hvv : v < mw) (hwv : le w = le v) : rd l yX0_isAhead cX0_isAhead 4 (some .boolean) 2 46 [.ref (a 0), .int (nI w), .int (nI v)] (rB dC dI cI cZ cJ (vX cI cZ a n mw nf sg fo L le sc li ba ca st)) (nI (ahd L sc w v).toNat) := by
  refine rd_ofW RX0 (by decide) rfl (Nat.le_of_ble_eq_true rfl) ?_
  intro p e s m below meth c S hr hlk hB ls hl
  obtain ⟨hP, hK⟩ := hB
  have hl : lv_has ls 4 [(0, .ref (a 0)), (1, .int (nI w)), (2, .int (nI v))] := hl
  obtain ⟨⟨hn, hm, hf⟩, ⟨hsg, hfo, hL, hle, hsc, hli, hba, hca⟩, hv1, hv2, hv3, hv4, hv5, hv6, hv7⟩ := id hI
  refine lv_aload_n S.1 S.2.1 dX0_isAhead_0 rfl (lv_at hl 0 rfl) ?_
  refine fX0_wordScores (v := .ref (a 5)) S hK hP rfl rfl dX0_isAhead_1 ?_
  refine lv_iload_n S.1 S.2.1 dX0_isAhead_4 rfl (lv_at hl 1 rfl) ?_
  refine n_iald S hK hP 5 0 rfl rfl dX0_isAhead_5 (j := w) (by decide) (by omega) ?_
  have b5 := hsc w
  refine lv_aload_n S.1 S.2.1 dX0_isAhead_6 rfl (lv_at hl 0 rfl) ?_
  refine fX0_wordScores (v := .ref (a 5)) S hK hP rfl rfl dX0_isAhead_7 ?_
  refine lv_iload_n S.1 S.2.1 dX0_isAhead_10 rfl (lv_at hl 2 rfl) ?_
  refine n_iald S hK hP 5 0 rfl rfl dX0_isAhead_11 (j := v) (by decide) (by omega) ?_
  have b11 := hsc v
  refine n_icmp_eq (x := sc w) (y := sc v) (tgt := 36) S dX0_isAhead_12 (by decide) (by omega) (by omega) (fun h12 => ?_) (fun h12 => ?_)
  · refine lv_aload_n S.1 S.2.1 dX0_isAhead_36 rfl (lv_at hl 0 rfl) ?_
    refine lv_iload_n S.1 S.2.1 dX0_isAhead_37 rfl (lv_at hl 1 rfl) ?_
    refine lv_iload_n S.1 S.2.1 dX0_isAhead_38 rfl (lv_at hl 2 rfl) ?_
    refine rd_callV (C := RX0) (As := [.int (nI w), .int (nI v)]) (rest := []) S (kX0_sharedBeginning l dC dI cI cZ cJ a n mw nf sg fo L le sc li ba ca st w v hI (by omega) (by omega)) rB_blind (fun U hU hW => ⟨by rw [hU]; exact hP, va_K.moved hW.alike hK⟩) (va_recv hK hP (ci := 0) (q0 := 0) rfl rfl) gX0_115 hdX0_sharedBeginning (by decide) hl.1 rfl (Nat.le_of_ble_eq_true rfl) dX0_isAhead_39 ⟨Nat.zero_le _, Nat.zero_le _⟩ ?_
    obtain ⟨i, ei⟩ : ∃ i, i = lcp (fun j => L (15 * w + j)) (fun j => L (15 * v + j)) (min (le w) (le v)) := ⟨_, rfl⟩
    rw [← ei]
    have hle1 := hle w
    refine lv_istore_n (lv' := [(3, .int (nI i)), (0, .ref (a 0)), (1, .int (nI w)), (2, .int (nI v))]) S.1 S.2.1 dX0_isAhead_42 rfl hl (by decide) rfl (fun ls hl => ?_)
    refine lv_aload_n S.1 S.2.1 dX0_isAhead_43 rfl (lv_at hl 1 rfl) ?_
    refine lv_iload_n S.1 S.2.1 dX0_isAhead_44 rfl (lv_at hl 2 rfl) ?_
    refine lv_iload_n S.1 S.2.1 dX0_isAhead_45 rfl (lv_at hl 0 rfl) ?_
    refine rd_callV (C := RX0) (As := [.int (nI w), .int (nI i)]) (rest := []) S (kX0_letterOrNone l dC dI cI cZ cJ a n mw nf sg fo L le sc li ba ca st w (nI i) hI (by omega)) rB_blind (fun U hU hW => ⟨by rw [hU]; exact hP, va_K.moved hW.alike hK⟩) (va_recv hK hP (ci := 0) (q0 := 0) rfl rfl) gX0_100 hdX0_letterOrNone (by decide) hl.1 rfl (Nat.le_of_ble_eq_true rfl) dX0_isAhead_46 ⟨Nat.zero_le _, Nat.zero_le _⟩ ?_
    refine lv_aload_n S.1 S.2.1 dX0_isAhead_49 rfl (lv_at hl 1 rfl) ?_
    refine lv_iload_n S.1 S.2.1 dX0_isAhead_50 rfl (lv_at hl 3 rfl) ?_
    refine lv_iload_n S.1 S.2.1 dX0_isAhead_51 rfl (lv_at hl 0 rfl) ?_
    refine rd_callV (C := RX0) (As := [.int (nI v), .int (nI i)]) (rest := [.int (lon L le w (nI i))]) S (kX0_letterOrNone l dC dI cI cZ cJ a n mw nf sg fo L le sc li ba ca st v (nI i) hI (by omega)) rB_blind (fun U hU hW => ⟨by rw [hU]; exact hP, va_K.moved hW.alike hK⟩) (va_recv hK hP (ci := 0) (q0 := 0) rfl rfl) gX0_100 hdX0_letterOrNone (by decide) hl.1 rfl (Nat.le_of_ble_eq_true rfl) dX0_isAhead_52 ⟨Nat.zero_le _, Nat.zero_le _⟩ ?_
    refine lv_icmp_ge (tgt := 62) S.1 S.2.1 dX0_isAhead_55 (by decide) (fun h55 => ?_) (fun h55 => ?_)
    · refine lv_iconst (v := (nI 0)) S.1 S.2.1 dX0_isAhead_62 (by decide) ?_
      exact rd_ret S hr hlk (rfl) (by rw [ahd_eq hI hw hvv hwv h12 ei]; first | (rw [decide_eq_true (Int32.not_le.mp h55)]; rfl) | (rw [decide_eq_false (Int32.not_lt.mpr h55)]; rfl)) dX0_isAhead_63
    · refine lv_iconst (v := (nI 1)) S.1 S.2.1 dX0_isAhead_58 (by decide) ?_
      refine lv_goto (tgt := 63) S.1 S.2.1 dX0_isAhead_59 (by decide) ?_
      exact rd_ret S hr hlk (rfl) (by rw [ahd_eq hI hw hvv hwv h12 ei]; first | (rw [decide_eq_true (Int32.not_le.mp h55)]; rfl) | (rw [decide_eq_false (Int32.not_lt.mpr h55)]; rfl)) dX0_isAhead_63
  · refine lv_aload_n S.1 S.2.1 dX0_isAhead_15 rfl (lv_at hl 0 rfl) ?_
    refine fX0_wordScores (v := .ref (a 5)) S hK hP rfl rfl dX0_isAhead_16 ?_
    refine lv_iload_n S.1 S.2.1 dX0_isAhead_19 rfl (lv_at hl 1 rfl) ?_
    refine n_iald S hK hP 5 0 rfl rfl dX0_isAhead_20 (j := w) (by decide) (by omega) ?_
    have b20 := hsc w
    refine lv_aload_n S.1 S.2.1 dX0_isAhead_21 rfl (lv_at hl 0 rfl) ?_
    refine fX0_wordScores (v := .ref (a 5)) S hK hP rfl rfl dX0_isAhead_22 ?_
    refine lv_iload_n S.1 S.2.1 dX0_isAhead_25 rfl (lv_at hl 2 rfl) ?_
    refine n_iald S hK hP 5 0 rfl rfl dX0_isAhead_26 (j := v) (by decide) (by omega) ?_
    have b26 := hsc v
    refine n_icmp_le (x := sc w) (y := sc v) (tgt := 34) S dX0_isAhead_27 (by decide) (by omega) (by omega) (fun h27 => ?_) (fun h27 => ?_)
    · refine lv_iconst (v := (nI 0)) S.1 S.2.1 dX0_isAhead_34 (by decide) ?_
      exact rd_ret S hr hlk (rfl) (by first | (rw [ahd, if_neg h12, decide_eq_true (by omega)]; rfl) | (rw [ahd, if_neg h12, decide_eq_false (by omega)]; rfl)) dX0_isAhead_35
    · refine lv_iconst (v := (nI 1)) S.1 S.2.1 dX0_isAhead_30 (by decide) ?_
      refine lv_goto (tgt := 35) S.1 S.2.1 dX0_isAhead_31 (by decide) ?_
      exact rd_ret S hr hlk (rfl) (by first | (rw [ahd, if_neg h12, decide_eq_true (by omega)]; rfl) | (rw [ahd, if_neg h12, decide_eq_false (by omega)]; rfl)) dX0_isAhead_35

set_option maxRecDepth 100000 in
theorem kX0_candidate (l : Launch) (dC : Nat → ClassId) (dI : Nat → Nat → Nat) (cI cZ cJ : ClassId) (a : Nat → Nat) (n mw nf : Nat) (sg fo L le sc li ba ca st : Nat → Nat) (k : Nat) (hI : iv n mw nf sg fo L le sc li ba ca) (hk : k < nf) : rd l yX0_candidate cX0_candidate 2 (some .int) 0 0 [.ref (a 0), .int (nI k)] (rB dC dI cI cZ cJ (vX cI cZ a n mw nf sg fo L le sc li ba ca st)) (nI (ca k)) := by
  refine rd_ofW RX0 (by decide) rfl (Nat.le_of_ble_eq_true rfl) ?_
  intro p e s m below meth c S hr hlk hB ls hl
  obtain ⟨hP, hK⟩ := hB
  have hl : lv_has ls 2 [(0, .ref (a 0)), (1, .int (nI k))] := hl
  obtain ⟨⟨hn, hm, hf⟩, ⟨hsg, hfo, hL, hle, hsc, hli, hba, hca⟩, hv1, hv2, hv3, hv4, hv5, hv6, hv7⟩ := id hI
  refine lv_iload_n S.1 S.2.1 dX0_candidate_0 rfl (lv_at hl 1 rfl) ?_
  refine n_if_lt (x := k) (tgt := 12) S dX0_candidate_1 (by decide) (by omega) ?_
  refine lv_iload_n S.1 S.2.1 dX0_candidate_4 rfl (lv_at hl 1 rfl) ?_
  refine lv_aload_n S.1 S.2.1 dX0_candidate_5 rfl (lv_at hl 0 rfl) ?_
  refine fX0_candidateCount (v := .int (nI nf)) S hK hP rfl rfl dX0_candidate_6 ?_
  refine n_icmp_lt (x := k) (y := nf) (tgt := 22) S dX0_candidate_9 (by decide) (by omega) (by omega) (fun h9 => ?_) (fun h9 => ?_)
  · refine lv_aload_n S.1 S.2.1 dX0_candidate_22 rfl (lv_at hl 0 rfl) ?_
    refine fX0_candidates (v := .ref (a 8)) S hK hP rfl rfl dX0_candidate_23 ?_
    refine lv_iload_n S.1 S.2.1 dX0_candidate_26 rfl (lv_at hl 1 rfl) ?_
    refine n_iald S hK hP 8 0 rfl rfl dX0_candidate_27 (j := k) (by decide) (by omega) ?_
    have b27 := hca k
    exact rd_ret S hr hlk (rfl) (rfl) dX0_candidate_28
  · exact absurd hk (by omega)

set_option maxRecDepth 100000 in
theorem lX0_at_9 (l : Launch) (dC : Nat → ClassId) (dI : Nat → Nat → Nat) (cI cZ cJ : ClassId) (a : Nat → Nat) (n mw nf : Nat) (sg fo L le sc li ba ca st : Nat → Nat) (x : Int32) (y : Nat) (hI : iv n mw nf sg fo L le sc li ba ca) (hy : 97 ≤ y ∧ y ≤ 122)  {p : Program} {e : Env} {s : State} {m : MethodId} {below : List Frame} {meth : Method} {c : Code} (S : CallFix p m c cX0_at 5 s ([.ref (a 0), .int x, .int (nI y)] : List Value).toArray tbG RX0) (hr : meth.sig.returnType = (some .int)) (hlk : meth.locks = false) (hK : va_K (dC, dI) vcl (vty cI cZ cJ) s) (hP : va_P (dC, dI) vcl (vX cI cZ a n mw nf sg fo L le sc li ba ca st) s.heap) :
    ∀ (fuel : Nat) (i : Nat) (k : Nat), nf - i < fuel → i ≤ nf → k = cnt (atP L le ca x y) i → ∀ ls : Array Slot, lv_has ls 5 [(0, .ref (a 0)), (1, .int x), (2, .int (nI y)), (3, .int (nI k)), (4, .int (nI i))] → W p l e ({ frames := 2, cells := 0, slots := 0, locals := 40 } : Room) s m ([.ref (a 0), .int x, .int (nI y)] : List Value).toArray below meth c s.heap [] 0 0 (MQ below (QcRead (nI (cnt (atP L le ca x y) nf))) [.ref (a 0), .int x, .int (nI y)].toArray s 0 0 (fun _ => False)) (F0 m 9 ls []) := by
  obtain ⟨⟨hn, hm, hf⟩, ⟨hsg, hfo, hL, hle, hsc, hli, hba, hca⟩, hv1, hv2, hv3, hv4, hv5, hv6, hv7⟩ := id hI
  intro fuel
  induction fuel with
  | zero =>
    intro i k hq
    exact absurd hq (Nat.not_lt_zero _)
  | succ fuel ih =>
    intro i k hq hi hk ls hl
    have hki := cnt_le (atP L le ca x y) i
    refine lv_iload S.1 S.2.1 dX0_at_9 (lv_at hl 4 rfl) ?_
    refine lv_aload_n S.1 S.2.1 dX0_at_11 rfl (lv_at hl 0 rfl) ?_
    refine fX0_candidateCount (v := .int (nI nf)) S hK hP rfl rfl dX0_at_12 ?_
    refine n_icmp_ge (x := i) (y := nf) (tgt := 43) S dX0_at_15 (by decide) (by omega) (by omega) (fun h15 => ?_) (fun h15 => ?_)
    · refine lv_iload_n S.1 S.2.1 dX0_at_43 rfl (lv_at hl 3 rfl) ?_
      exact rd_ret S hr hlk (rfl) (by rw [hk, show i = nf by omega]) dX0_at_44
    · refine lv_aload_n S.1 S.2.1 dX0_at_18 rfl (lv_at hl 0 rfl) ?_
      refine lv_aload_n S.1 S.2.1 dX0_at_19 rfl (lv_at hl 0 rfl) ?_
      refine fX0_candidates (v := .ref (a 8)) S hK hP rfl rfl dX0_at_20 ?_
      refine lv_iload S.1 S.2.1 dX0_at_23 (lv_at hl 4 rfl) ?_
      refine n_iald S hK hP 8 0 rfl rfl dX0_at_25 (j := i) (by decide) (by omega) ?_
      have b25 := hca i
      refine lv_iload_n S.1 S.2.1 dX0_at_26 rfl (lv_at hl 1 rfl) ?_
      refine rd_callV (C := RX0) (As := [.int (nI (ca i)), .int x]) (rest := []) S (kX0_letterOrNone l dC dI cI cZ cJ a n mw nf sg fo L le sc li ba ca st (ca i) x hI (hca i)) rB_blind (fun U hU hW => ⟨by rw [hU]; exact hP, va_K.moved hW.alike hK⟩) (va_recv hK hP (ci := 0) (q0 := 0) rfl rfl) gX0_100 hdX0_letterOrNone (by decide) hl.1 rfl (Nat.le_of_ble_eq_true rfl) dX0_at_27 ⟨Nat.zero_le _, Nat.zero_le _⟩ ?_
      refine lv_iload_n S.1 S.2.1 dX0_at_30 rfl (lv_at hl 2 rfl) ?_
      refine lv_icmp_ne (tgt := 37) S.1 S.2.1 dX0_at_31 (by decide) (fun h31 => ?_) (fun h31 => ?_)
      · refine n_iinc (lv' := [(4, .int (nI (i + 1))), (0, .ref (a 0)), (1, .int x), (2, .int (nI y)), (3, .int (nI k))]) (x := i) (k := 4) S dX0_at_37 hl rfl (by decide) rfl (fun ls hl => ?_)
        refine lv_goto (tgt := 9) S.1 S.2.1 dX0_at_40 (by decide) ?_
        exact ih (i + 1) k (by omega) (by omega) (by rw [cnt, ← hk, atP]; first | (rw [decide_eq_true (Classical.not_not.mp h31)]; done) | (rw [decide_eq_true h31]; done) | (rw [decide_eq_true h31]; rfl) | (rw [decide_eq_false h31]; rfl)) ls (lv_sub hl [1, 2, 3, 4, 0] rfl)
      · refine n_iinc (lv' := [(3, .int (nI (k + 1))), (0, .ref (a 0)), (1, .int x), (2, .int (nI y)), (4, .int (nI i))]) (x := k) (k := 3) S dX0_at_34 hl rfl (by decide) rfl (fun ls hl => ?_)
        refine n_iinc (lv' := [(4, .int (nI (i + 1))), (3, .int (nI (k + 1))), (0, .ref (a 0)), (1, .int x), (2, .int (nI y))]) (x := i) (k := 4) S dX0_at_37 hl rfl (by decide) rfl (fun ls hl => ?_)
        refine lv_goto (tgt := 9) S.1 S.2.1 dX0_at_40 (by decide) ?_
        exact ih (i + 1) (k + 1) (by omega) (by omega) (by rw [cnt, ← hk, atP]; first | (rw [decide_eq_true (Classical.not_not.mp h31)]; done) | (rw [decide_eq_true h31]; done) | (rw [decide_eq_true h31]; rfl) | (rw [decide_eq_false h31]; rfl)) ls (lv_sub hl [2, 3, 4, 1, 0] rfl)
set_option maxRecDepth 100000 in
theorem kX0_at (l : Launch) (dC : Nat → ClassId) (dI : Nat → Nat → Nat) (cI cZ cJ : ClassId) (a : Nat → Nat) (n mw nf : Nat) (sg fo L le sc li ba ca st : Nat → Nat) (x : Int32) (y : Nat) (hI : iv n mw nf sg fo L le sc li ba ca) (hy : 97 ≤ y ∧ y ≤ 122) : rd l yX0_at cX0_at 5 (some .int) 2 40 [.ref (a 0), .int x, .int (nI y)] (rB dC dI cI cZ cJ (vX cI cZ a n mw nf sg fo L le sc li ba ca st)) (nI (cnt (atP L le ca x y) nf)) := by
  refine rd_ofW RX0 (by decide) rfl (Nat.le_of_ble_eq_true rfl) ?_
  intro p e s m below meth c S hr hlk hB ls hl
  obtain ⟨hP, hK⟩ := hB
  have hl : lv_has ls 5 [(0, .ref (a 0)), (1, .int x), (2, .int (nI y))] := hl
  obtain ⟨⟨hn, hm, hf⟩, ⟨hsg, hfo, hL, hle, hsc, hli, hba, hca⟩, hv1, hv2, hv3, hv4, hv5, hv6, hv7⟩ := id hI
  refine lv_iload_n S.1 S.2.1 dX0_at_0 rfl (lv_at hl 2 rfl) ?_
  refine rdv_callS (As := [.int (nI y)]) (rest := []) S (kX0_needLetter l y hy) tr_blind (fun _ _ _ => trivial) gX0_52 hdX0_needLetter (by decide) hl.1 rfl (Nat.le_of_ble_eq_true rfl) dX0_at_1 ⟨Nat.zero_le _, Nat.zero_le _⟩ ?_
  refine lv_iconst (v := (nI 0)) S.1 S.2.1 dX0_at_4 (by decide) ?_
  refine lv_istore_n (lv' := [(3, .int (nI 0)), (0, .ref (a 0)), (1, .int x), (2, .int (nI y))]) S.1 S.2.1 dX0_at_5 rfl hl (by decide) rfl (fun ls hl => ?_)
  refine lv_iconst (v := (nI 0)) S.1 S.2.1 dX0_at_6 (by decide) ?_
  refine lv_istore (lv' := [(4, .int (nI 0)), (3, .int (nI 0)), (0, .ref (a 0)), (1, .int x), (2, .int (nI y))]) S.1 S.2.1 dX0_at_7 hl (by decide) rfl (fun ls hl => ?_)
  exact lX0_at_9 l dC dI cI cZ cJ a n mw nf sg fo L le sc li ba ca st x y hI hy S hr hlk hK hP _ 0 0 (Nat.lt_succ_self _) (by omega) rfl ls (lv_sub hl [2, 3, 4, 1, 0] rfl)

set_option maxRecDepth 100000 in
theorem lX0_begins_8 (l : Launch) (dC : Nat → ClassId) (dI : Nat → Nat → Nat) (cI cZ cJ : ClassId) (a : Nat → Nat) (n mw nf : Nat) (sg fo L le sc li ba ca st : Nat → Nat) (t : Nat) (hI : iv n mw nf sg fo L le sc li ba ca) (ht : t < 4)  {p : Program} {e : Env} {s : State} {m : MethodId} {below : List Frame} {meth : Method} {c : Code} (S : CallFix p m c cX0_begins 4 s ([.ref (a 0), .int (nI t)] : List Value).toArray tbG RX0) (hr : meth.sig.returnType = (some .int)) (hlk : meth.locks = false) (hK : va_K (dC, dI) vcl (vty cI cZ cJ) s) (hP : va_P (dC, dI) vcl (vX cI cZ a n mw nf sg fo L le sc li ba ca st) s.heap) :
    ∀ (fuel : Nat) (i : Nat) (k : Nat), mw - i < fuel → i ≤ mw → k = cnt (bgn n sg fo L le li ba t) i → ∀ ls : Array Slot, lv_has ls 4 [(0, .ref (a 0)), (1, .int (nI t)), (2, .int (nI k)), (3, .int (nI i))] → W p l e ({ frames := 3, cells := 0, slots := 0, locals := 66 } : Room) s m ([.ref (a 0), .int (nI t)] : List Value).toArray below meth c s.heap [] 0 0 (MQ below (QcRead (nI (cnt (bgn n sg fo L le li ba t) mw))) [.ref (a 0), .int (nI t)].toArray s 0 0 (fun _ => False)) (F0 m 8 ls []) := by
  obtain ⟨⟨hn, hm, hf⟩, ⟨hsg, hfo, hL, hle, hsc, hli, hba, hca⟩, hv1, hv2, hv3, hv4, hv5, hv6, hv7⟩ := id hI
  intro fuel
  induction fuel with
  | zero =>
    intro i k hq
    exact absurd hq (Nat.not_lt_zero _)
  | succ fuel ih =>
    intro i k hq hi hk ls hl
    have hki := cnt_le (bgn n sg fo L le li ba t) i
    have hlei := hle i
    refine lv_iload_n S.1 S.2.1 dX0_begins_8 rfl (lv_at hl 3 rfl) ?_
    refine lv_aload_n S.1 S.2.1 dX0_begins_9 rfl (lv_at hl 0 rfl) ?_
    refine fX0_wordCount (v := .int (nI mw)) S hK hP rfl rfl dX0_begins_10 ?_
    refine n_icmp_ge (x := i) (y := mw) (tgt := 43) S dX0_begins_13 (by decide) (by omega) (by omega) (fun h13 => ?_) (fun h13 => ?_)
    · refine lv_iload_n S.1 S.2.1 dX0_begins_43 rfl (lv_at hl 2 rfl) ?_
      exact rd_ret S hr hlk (rfl) (by rw [hk, show i = mw by omega]) dX0_begins_44
    · refine lv_aload_n S.1 S.2.1 dX0_begins_16 rfl (lv_at hl 0 rfl) ?_
      refine lv_iload_n S.1 S.2.1 dX0_begins_17 rfl (lv_at hl 3 rfl) ?_
      refine lv_iload_n S.1 S.2.1 dX0_begins_18 rfl (lv_at hl 1 rfl) ?_
      refine rd_callV (C := RX0) (As := [.int (nI i), .int (nI t)]) (rest := []) S (kX0_isFreeIn l dC dI cI cZ cJ a n mw nf sg fo L le sc li ba ca st i t hI (by omega) ht) rB_blind (fun U hU hW => ⟨by rw [hU]; exact hP, va_K.moved hW.alike hK⟩) (va_recv hK hP (ci := 0) (q0 := 0) rfl rfl) gX0_87 hdX0_isFreeIn (by decide) hl.1 rfl (Nat.le_of_ble_eq_true rfl) dX0_begins_19 ⟨Nat.zero_le _, Nat.zero_le _⟩ ?_
      refine n_bif_eq (b := fre li ba t i) (tgt := 37) S dX0_begins_22 (by decide) (fun h22 => ?_) (fun h22 => ?_)
      · refine n_iinc (lv' := [(3, .int (nI (i + 1))), (0, .ref (a 0)), (1, .int (nI t)), (2, .int (nI k))]) (x := i) (k := 3) S dX0_begins_37 hl rfl (by decide) rfl (fun ls hl => ?_)
        refine lv_goto (tgt := 8) S.1 S.2.1 dX0_begins_40 (by decide) ?_
        exact ih (i + 1) k (by omega) (by omega) (by rw [cnt, ← hk, bgn, h22]; first | (rw [Nat.zero_add] at h31; rw [h31]; rfl) | rfl) ls (lv_sub hl [1, 2, 3, 0] rfl)
      · refine lv_aload_n S.1 S.2.1 dX0_begins_25 rfl (lv_at hl 0 rfl) ?_
        refine lv_iload_n S.1 S.2.1 dX0_begins_26 rfl (lv_at hl 3 rfl) ?_
        refine lv_iconst (v := (nI 0)) S.1 S.2.1 dX0_begins_27 (by decide) ?_
        refine rd_callV (C := RX0) (As := [.int (nI i), .int (nI 0)]) (rest := []) S (kX0_hasRowAt l dC dI cI cZ cJ a n mw nf sg fo L le sc li ba ca st i 0 hI (by omega) (by omega)) rB_blind (fun U hU hW => ⟨by rw [hU]; exact hP, va_K.moved hW.alike hK⟩) (va_recv hK hP (ci := 0) (q0 := 0) rfl rfl) gX0_103 hdX0_hasRowAt (by decide) hl.1 rfl (Nat.le_of_ble_eq_true rfl) dX0_begins_28 ⟨Nat.zero_le _, Nat.zero_le _⟩ ?_
        refine n_bif_eq (b := (decide (0 + n ≤ le i) && mat n sg fo L i 0)) (tgt := 37) S dX0_begins_31 (by decide) (fun h31 => ?_) (fun h31 => ?_)
        · refine n_iinc (lv' := [(3, .int (nI (i + 1))), (0, .ref (a 0)), (1, .int (nI t)), (2, .int (nI k))]) (x := i) (k := 3) S dX0_begins_37 hl rfl (by decide) rfl (fun ls hl => ?_)
          refine lv_goto (tgt := 8) S.1 S.2.1 dX0_begins_40 (by decide) ?_
          exact ih (i + 1) k (by omega) (by omega) (by rw [cnt, ← hk, bgn, h22]; first | (rw [Nat.zero_add] at h31; rw [h31]; rfl) | rfl) ls (lv_sub hl [1, 2, 3, 0] rfl)
        · refine n_iinc (lv' := [(2, .int (nI (k + 1))), (0, .ref (a 0)), (1, .int (nI t)), (3, .int (nI i))]) (x := k) (k := 2) S dX0_begins_34 hl rfl (by decide) rfl (fun ls hl => ?_)
          refine n_iinc (lv' := [(3, .int (nI (i + 1))), (2, .int (nI (k + 1))), (0, .ref (a 0)), (1, .int (nI t))]) (x := i) (k := 3) S dX0_begins_37 hl rfl (by decide) rfl (fun ls hl => ?_)
          refine lv_goto (tgt := 8) S.1 S.2.1 dX0_begins_40 (by decide) ?_
          exact ih (i + 1) (k + 1) (by omega) (by omega) (by rw [cnt, ← hk, bgn, h22]; first | (rw [Nat.zero_add] at h31; rw [h31]; rfl) | rfl) ls (lv_sub hl [2, 3, 1, 0] rfl)
set_option maxRecDepth 100000 in
theorem kX0_begins (l : Launch) (dC : Nat → ClassId) (dI : Nat → Nat → Nat) (cI cZ cJ : ClassId) (a : Nat → Nat) (n mw nf : Nat) (sg fo L le sc li ba ca st : Nat → Nat) (t : Nat) (hI : iv n mw nf sg fo L le sc li ba ca) (ht : t < 4) : rd l yX0_begins cX0_begins 4 (some .int) 3 66 [.ref (a 0), .int (nI t)] (rB dC dI cI cZ cJ (vX cI cZ a n mw nf sg fo L le sc li ba ca st)) (nI (cnt (bgn n sg fo L le li ba t) mw)) := by
  refine rd_ofW RX0 (by decide) rfl (Nat.le_of_ble_eq_true rfl) ?_
  intro p e s m below meth c S hr hlk hB ls hl
  obtain ⟨hP, hK⟩ := hB
  have hl : lv_has ls 4 [(0, .ref (a 0)), (1, .int (nI t))] := hl
  obtain ⟨⟨hn, hm, hf⟩, ⟨hsg, hfo, hL, hle, hsc, hli, hba, hca⟩, hv1, hv2, hv3, hv4, hv5, hv6, hv7⟩ := id hI
  refine lv_iload_n S.1 S.2.1 dX0_begins_0 rfl (lv_at hl 1 rfl) ?_
  refine rdv_callS (As := [.int (nI t)]) (rest := []) S (kX0_needList l t ht) tr_blind (fun _ _ _ => trivial) gX0_56 hdX0_needList (by decide) hl.1 rfl (Nat.le_of_ble_eq_true rfl) dX0_begins_1 ⟨Nat.zero_le _, Nat.zero_le _⟩ ?_
  refine lv_iconst (v := (nI 0)) S.1 S.2.1 dX0_begins_4 (by decide) ?_
  refine lv_istore_n (lv' := [(2, .int (nI 0)), (0, .ref (a 0)), (1, .int (nI t))]) S.1 S.2.1 dX0_begins_5 rfl hl (by decide) rfl (fun ls hl => ?_)
  refine lv_iconst (v := (nI 0)) S.1 S.2.1 dX0_begins_6 (by decide) ?_
  refine lv_istore_n (lv' := [(3, .int (nI 0)), (2, .int (nI 0)), (0, .ref (a 0)), (1, .int (nI t))]) S.1 S.2.1 dX0_begins_7 rfl hl (by decide) rfl (fun ls hl => ?_)
  exact lX0_begins_8 l dC dI cI cZ cJ a n mw nf sg fo L le sc li ba ca st t hI ht S hr hlk hK hP _ 0 0 (Nat.lt_succ_self _) (by omega) rfl ls (lv_sub hl [2, 3, 1, 0] rfl)

set_option maxRecDepth 100000 in
theorem lX0_ends_8 (l : Launch) (dC : Nat → ClassId) (dI : Nat → Nat → Nat) (cI cZ cJ : ClassId) (a : Nat → Nat) (n mw nf : Nat) (sg fo L le sc li ba ca st : Nat → Nat) (t : Nat) (hI : iv n mw nf sg fo L le sc li ba ca) (ht : t < 4)  {p : Program} {e : Env} {s : State} {m : MethodId} {below : List Frame} {meth : Method} {c : Code} (S : CallFix p m c cX0_ends 4 s ([.ref (a 0), .int (nI t)] : List Value).toArray tbG RX0) (hr : meth.sig.returnType = (some .int)) (hlk : meth.locks = false) (hK : va_K (dC, dI) vcl (vty cI cZ cJ) s) (hP : va_P (dC, dI) vcl (vX cI cZ a n mw nf sg fo L le sc li ba ca st) s.heap) :
    ∀ (fuel : Nat) (i : Nat) (k : Nat), mw - i < fuel → i ≤ mw → k = cnt (edn n sg fo L le li ba t) i → ∀ ls : Array Slot, lv_has ls 4 [(0, .ref (a 0)), (1, .int (nI t)), (2, .int (nI k)), (3, .int (nI i))] → W p l e ({ frames := 3, cells := 0, slots := 0, locals := 66 } : Room) s m ([.ref (a 0), .int (nI t)] : List Value).toArray below meth c s.heap [] 0 0 (MQ below (QcRead (nI (cnt (edn n sg fo L le li ba t) mw))) [.ref (a 0), .int (nI t)].toArray s 0 0 (fun _ => False)) (F0 m 8 ls []) := by
  obtain ⟨⟨hn, hm, hf⟩, ⟨hsg, hfo, hL, hle, hsc, hli, hba, hca⟩, hv1, hv2, hv3, hv4, hv5, hv6, hv7⟩ := id hI
  intro fuel
  induction fuel with
  | zero =>
    intro i k hq
    exact absurd hq (Nat.not_lt_zero _)
  | succ fuel ih =>
    intro i k hq hi hk ls hl
    have hki := cnt_le (edn n sg fo L le li ba t) i
    have hlei := hle i
    refine lv_iload_n S.1 S.2.1 dX0_ends_8 rfl (lv_at hl 3 rfl) ?_
    refine lv_aload_n S.1 S.2.1 dX0_ends_9 rfl (lv_at hl 0 rfl) ?_
    refine fX0_wordCount (v := .int (nI mw)) S hK hP rfl rfl dX0_ends_10 ?_
    refine n_icmp_ge (x := i) (y := mw) (tgt := 53) S dX0_ends_13 (by decide) (by omega) (by omega) (fun h13 => ?_) (fun h13 => ?_)
    · refine lv_iload_n S.1 S.2.1 dX0_ends_53 rfl (lv_at hl 2 rfl) ?_
      exact rd_ret S hr hlk (rfl) (by rw [hk, show i = mw by omega]) dX0_ends_54
    · refine lv_aload_n S.1 S.2.1 dX0_ends_16 rfl (lv_at hl 0 rfl) ?_
      refine lv_iload_n S.1 S.2.1 dX0_ends_17 rfl (lv_at hl 3 rfl) ?_
      refine lv_iload_n S.1 S.2.1 dX0_ends_18 rfl (lv_at hl 1 rfl) ?_
      refine rd_callV (C := RX0) (As := [.int (nI i), .int (nI t)]) (rest := []) S (kX0_isFreeIn l dC dI cI cZ cJ a n mw nf sg fo L le sc li ba ca st i t hI (by omega) ht) rB_blind (fun U hU hW => ⟨by rw [hU]; exact hP, va_K.moved hW.alike hK⟩) (va_recv hK hP (ci := 0) (q0 := 0) rfl rfl) gX0_87 hdX0_isFreeIn (by decide) hl.1 rfl (Nat.le_of_ble_eq_true rfl) dX0_ends_19 ⟨Nat.zero_le _, Nat.zero_le _⟩ ?_
      refine n_bif_eq (b := fre li ba t i) (tgt := 47) S dX0_ends_22 (by decide) (fun h22 => ?_) (fun h22 => ?_)
      · refine n_iinc (lv' := [(3, .int (nI (i + 1))), (0, .ref (a 0)), (1, .int (nI t)), (2, .int (nI k))]) (x := i) (k := 3) S dX0_ends_47 hl rfl (by decide) rfl (fun ls hl => ?_)
        refine lv_goto (tgt := 8) S.1 S.2.1 dX0_ends_50 (by decide) ?_
        exact ih (i + 1) k (by omega) (by omega) (by rw [cnt, ← hk, edn, h22]; first | exact absurd rfl h41 | (rw [decide_eq_true h37, h41]; rfl) | (rw [decide_eq_false h37]; rfl) | rfl) ls (lv_sub hl [1, 2, 3, 0] rfl)
      · refine lv_aload_n S.1 S.2.1 dX0_ends_25 rfl (lv_at hl 0 rfl) ?_
        refine lv_iload_n S.1 S.2.1 dX0_ends_26 rfl (lv_at hl 3 rfl) ?_
        refine lv_aload_n S.1 S.2.1 dX0_ends_27 rfl (lv_at hl 0 rfl) ?_
        refine fX0_wordLengths (v := .ref (a 4)) S hK hP rfl rfl dX0_ends_28 ?_
        refine lv_iload_n S.1 S.2.1 dX0_ends_31 rfl (lv_at hl 3 rfl) ?_
        refine n_iald S hK hP 4 0 rfl rfl dX0_ends_32 (j := i) (by decide) (by omega) ?_
        have b32 := hle i
        refine lv_aload_n S.1 S.2.1 dX0_ends_33 rfl (lv_at hl 0 rfl) ?_
        refine fX0_signCount (v := .int (nI n)) S hK hP rfl rfl dX0_ends_34 ?_
        by_cases h37 : n ≤ le i
        · refine n_isub (x := le i) (y := n) S dX0_ends_37 h37 ?_
          refine rd_callV (C := RX0) (As := [.int (nI i), .int (nI (le i - n))]) (rest := []) S (kX0_hasRowAt l dC dI cI cZ cJ a n mw nf sg fo L le sc li ba ca st i (le i - n) hI (by omega) (by omega)) rB_blind (fun U hU hW => ⟨by rw [hU]; exact hP, va_K.moved hW.alike hK⟩) (va_recv hK hP (ci := 0) (q0 := 0) rfl rfl) gX0_103 hdX0_hasRowAt (by decide) hl.1 rfl (Nat.le_of_ble_eq_true rfl) dX0_ends_38 ⟨Nat.zero_le _, Nat.zero_le _⟩ ?_
          rw [show decide (le i - n + n ≤ le i) = true from decide_eq_true (by omega), Bool.true_and]
          refine n_bif_eq (b := mat n sg fo L i (le i - n)) (tgt := 47) S dX0_ends_41 (by decide) (fun h41 => ?_) (fun h41 => ?_)
          · refine n_iinc (lv' := [(3, .int (nI (i + 1))), (0, .ref (a 0)), (1, .int (nI t)), (2, .int (nI k))]) (x := i) (k := 3) S dX0_ends_47 hl rfl (by decide) rfl (fun ls hl => ?_)
            refine lv_goto (tgt := 8) S.1 S.2.1 dX0_ends_50 (by decide) ?_
            exact ih (i + 1) k (by omega) (by omega) (by rw [cnt, ← hk, edn, h22]; first | exact absurd rfl h41 | (rw [decide_eq_true h37, h41]; rfl) | (rw [decide_eq_false h37]; rfl) | rfl) ls (lv_sub hl [1, 2, 3, 0] rfl)
          · refine n_iinc (lv' := [(2, .int (nI (k + 1))), (0, .ref (a 0)), (1, .int (nI t)), (3, .int (nI i))]) (x := k) (k := 2) S dX0_ends_44 hl rfl (by decide) rfl (fun ls hl => ?_)
            refine n_iinc (lv' := [(3, .int (nI (i + 1))), (2, .int (nI (k + 1))), (0, .ref (a 0)), (1, .int (nI t))]) (x := i) (k := 3) S dX0_ends_47 hl rfl (by decide) rfl (fun ls hl => ?_)
            refine lv_goto (tgt := 8) S.1 S.2.1 dX0_ends_50 (by decide) ?_
            exact ih (i + 1) (k + 1) (by omega) (by omega) (by rw [cnt, ← hk, edn, h22]; first | exact absurd rfl h41 | (rw [decide_eq_true h37, h41]; rfl) | (rw [decide_eq_false h37]; rfl) | rfl) ls (lv_sub hl [2, 3, 1, 0] rfl)
        · refine lv_isub S.1 S.2.1 dX0_ends_37 ?_
          refine rd_callV (C := RX0) (As := [.int (nI i), .int (nI (le i) - nI n)]) (rest := []) S (kX0_hasRowAtN l dC dI cI cZ cJ a n mw nf sg fo L le sc li ba ca st i ((nI (le i) - nI n)) hI (pk_sneg (by omega) (by omega))) rB_blind (fun U hU hW => ⟨by rw [hU]; exact hP, va_K.moved hW.alike hK⟩) (va_recv hK hP (ci := 0) (q0 := 0) rfl rfl) gX0_103 hdX0_hasRowAt (by decide) hl.1 rfl (Nat.le_of_ble_eq_true rfl) dX0_ends_38 ⟨Nat.zero_le _, Nat.zero_le _⟩ ?_
          refine n_if_eq (x := 0) (tgt := 47) S dX0_ends_41 (by decide) (by omega) (fun h41 => ?_) (fun h41 => ?_)
          · refine n_iinc (lv' := [(3, .int (nI (i + 1))), (0, .ref (a 0)), (1, .int (nI t)), (2, .int (nI k))]) (x := i) (k := 3) S dX0_ends_47 hl rfl (by decide) rfl (fun ls hl => ?_)
            refine lv_goto (tgt := 8) S.1 S.2.1 dX0_ends_50 (by decide) ?_
            exact ih (i + 1) k (by omega) (by omega) (by rw [cnt, ← hk, edn, h22]; first | exact absurd rfl h41 | (rw [decide_eq_true h37, h41]; rfl) | (rw [decide_eq_false h37]; rfl) | rfl) ls (lv_sub hl [1, 2, 3, 0] rfl)
          · refine n_iinc (lv' := [(2, .int (nI (k + 1))), (0, .ref (a 0)), (1, .int (nI t)), (3, .int (nI i))]) (x := k) (k := 2) S dX0_ends_44 hl rfl (by decide) rfl (fun ls hl => ?_)
            refine n_iinc (lv' := [(3, .int (nI (i + 1))), (2, .int (nI (k + 1))), (0, .ref (a 0)), (1, .int (nI t))]) (x := i) (k := 3) S dX0_ends_47 hl rfl (by decide) rfl (fun ls hl => ?_)
            refine lv_goto (tgt := 8) S.1 S.2.1 dX0_ends_50 (by decide) ?_
            exact ih (i + 1) (k + 1) (by omega) (by omega) (by rw [cnt, ← hk, edn, h22]; first | exact absurd rfl h41 | (rw [decide_eq_true h37, h41]; rfl) | (rw [decide_eq_false h37]; rfl) | rfl) ls (lv_sub hl [2, 3, 1, 0] rfl)
set_option maxRecDepth 100000 in
theorem kX0_ends (l : Launch) (dC : Nat → ClassId) (dI : Nat → Nat → Nat) (cI cZ cJ : ClassId) (a : Nat → Nat) (n mw nf : Nat) (sg fo L le sc li ba ca st : Nat → Nat) (t : Nat) (hI : iv n mw nf sg fo L le sc li ba ca) (ht : t < 4) : rd l yX0_ends cX0_ends 4 (some .int) 3 66 [.ref (a 0), .int (nI t)] (rB dC dI cI cZ cJ (vX cI cZ a n mw nf sg fo L le sc li ba ca st)) (nI (cnt (edn n sg fo L le li ba t) mw)) := by
  refine rd_ofW RX0 (by decide) rfl (Nat.le_of_ble_eq_true rfl) ?_
  intro p e s m below meth c S hr hlk hB ls hl
  obtain ⟨hP, hK⟩ := hB
  have hl : lv_has ls 4 [(0, .ref (a 0)), (1, .int (nI t))] := hl
  obtain ⟨⟨hn, hm, hf⟩, ⟨hsg, hfo, hL, hle, hsc, hli, hba, hca⟩, hv1, hv2, hv3, hv4, hv5, hv6, hv7⟩ := id hI
  refine lv_iload_n S.1 S.2.1 dX0_ends_0 rfl (lv_at hl 1 rfl) ?_
  refine rdv_callS (As := [.int (nI t)]) (rest := []) S (kX0_needList l t ht) tr_blind (fun _ _ _ => trivial) gX0_56 hdX0_needList (by decide) hl.1 rfl (Nat.le_of_ble_eq_true rfl) dX0_ends_1 ⟨Nat.zero_le _, Nat.zero_le _⟩ ?_
  refine lv_iconst (v := (nI 0)) S.1 S.2.1 dX0_ends_4 (by decide) ?_
  refine lv_istore_n (lv' := [(2, .int (nI 0)), (0, .ref (a 0)), (1, .int (nI t))]) S.1 S.2.1 dX0_ends_5 rfl hl (by decide) rfl (fun ls hl => ?_)
  refine lv_iconst (v := (nI 0)) S.1 S.2.1 dX0_ends_6 (by decide) ?_
  refine lv_istore_n (lv' := [(3, .int (nI 0)), (2, .int (nI 0)), (0, .ref (a 0)), (1, .int (nI t))]) S.1 S.2.1 dX0_ends_7 rfl hl (by decide) rfl (fun ls hl => ?_)
  exact lX0_ends_8 l dC dI cI cZ cJ a n mw nf sg fo L le sc li ba ca st t hI ht S hr hlk hK hP _ 0 0 (Nat.lt_succ_self _) (by omega) rfl ls (lv_sub hl [2, 3, 1, 0] rfl)

set_option maxRecDepth 100000 in
theorem lX0_many_22 (l : Launch) (dC : Nat → ClassId) (dI : Nat → Nat → Nat) (cI cZ cJ : ClassId) (a : Nat → Nat) (n mw nf : Nat) (sg fo L le sc li ba ca st : Nat → Nat) (t : Nat) (y : Int32) (hI : iv n mw nf sg fo L le sc li ba ca) (ht : t < 4)  {p : Program} {e : Env} {s : State} {m : MethodId} {below : List Frame} {meth : Method} {c : Code} (S : CallFix p m c cX0_many 5 s ([.ref (a 0), .int (nI t), .int y] : List Value).toArray tbG RX0) (hr : meth.sig.returnType = (some .int)) (hlk : meth.locks = false) (hK : va_K (dC, dI) vcl (vty cI cZ cJ) s) (hP : va_P (dC, dI) vcl (vX cI cZ a n mw nf sg fo L le sc li ba ca st) s.heap) :
    ∀ (fuel : Nat) (i : Nat) (k : Nat), mw - i < fuel → ¬ (y < nI 1 ∨ nI 15 < y) → i ≤ mw → k = cnt (mnP le li t y) i → ∀ ls : Array Slot, lv_has ls 5 [(0, .ref (a 0)), (1, .int (nI t)), (2, .int y), (3, .int (nI k)), (4, .int (nI i))] → W p l e ({ frames := 1, cells := 0, slots := 0, locals := 22 } : Room) s m ([.ref (a 0), .int (nI t), .int y] : List Value).toArray below meth c s.heap [] 0 0 (MQ below (QcRead (mny le li mw t y)) [.ref (a 0), .int (nI t), .int y].toArray s 0 0 (fun _ => False)) (F0 m 22 ls []) := by
  obtain ⟨⟨hn, hm, hf⟩, ⟨hsg, hfo, hL, hle, hsc, hli, hba, hca⟩, hv1, hv2, hv3, hv4, hv5, hv6, hv7⟩ := id hI
  intro fuel
  induction fuel with
  | zero =>
    intro i k hq
    exact absurd hq (Nat.not_lt_zero _)
  | succ fuel ih =>
    intro i k hq h6 hi hk ls hl
    have hki := cnt_le (mnP le li t y) i
    refine lv_iload S.1 S.2.1 dX0_many_22 (lv_at hl 4 rfl) ?_
    refine lv_aload_n S.1 S.2.1 dX0_many_24 rfl (lv_at hl 0 rfl) ?_
    refine fX0_wordCount (v := .int (nI mw)) S hK hP rfl rfl dX0_many_25 ?_
    refine n_icmp_ge (x := i) (y := mw) (tgt := 61) S dX0_many_28 (by decide) (by omega) (by omega) (fun h28 => ?_) (fun h28 => ?_)
    · refine lv_iload_n S.1 S.2.1 dX0_many_61 rfl (lv_at hl 3 rfl) ?_
      exact rd_ret S hr hlk (rfl) (by rw [mny, if_neg h6, hk, show i = mw by omega]) dX0_many_62
    · refine lv_aload_n S.1 S.2.1 dX0_many_31 rfl (lv_at hl 0 rfl) ?_
      refine lv_iload S.1 S.2.1 dX0_many_32 (lv_at hl 4 rfl) ?_
      refine lv_iload_n S.1 S.2.1 dX0_many_34 rfl (lv_at hl 1 rfl) ?_
      refine rd_callV (C := RX0) (As := [.int (nI i), .int (nI t)]) (rest := []) S (kX0_isOf l dC dI cI cZ cJ a n mw nf sg fo L le sc li ba ca st i t hI (by omega) ht) rB_blind (fun U hU hW => ⟨by rw [hU]; exact hP, va_K.moved hW.alike hK⟩) (va_recv hK hP (ci := 0) (q0 := 0) rfl rfl) gX0_79 hdX0_isOf (by decide) hl.1 rfl (Nat.le_of_ble_eq_true rfl) dX0_many_35 ⟨Nat.zero_le _, Nat.zero_le _⟩ ?_
      refine n_bif_eq (b := inl li i t) (tgt := 55) S dX0_many_38 (by decide) (fun h38 => ?_) (fun h38 => ?_)
      · refine n_iinc (lv' := [(4, .int (nI (i + 1))), (0, .ref (a 0)), (1, .int (nI t)), (2, .int y), (3, .int (nI k))]) (x := i) (k := 4) S dX0_many_55 hl rfl (by decide) rfl (fun ls hl => ?_)
        refine lv_goto (tgt := 22) S.1 S.2.1 dX0_many_58 (by decide) ?_
        exact ih (i + 1) k (by omega) h6 (by omega) (by rw [cnt, ← hk, mnP, h38]; first | (rw [decide_eq_true h49]; rfl) | (rw [decide_eq_false h49]; rfl) | rfl) ls (lv_sub hl [1, 2, 3, 4, 0] rfl)
      · refine lv_aload_n S.1 S.2.1 dX0_many_41 rfl (lv_at hl 0 rfl) ?_
        refine fX0_wordLengths (v := .ref (a 4)) S hK hP rfl rfl dX0_many_42 ?_
        refine lv_iload S.1 S.2.1 dX0_many_45 (lv_at hl 4 rfl) ?_
        refine n_iald S hK hP 4 0 rfl rfl dX0_many_47 (j := i) (by decide) (by omega) ?_
        have b47 := hle i
        refine lv_iload_n S.1 S.2.1 dX0_many_48 rfl (lv_at hl 2 rfl) ?_
        refine lv_icmp_ne (tgt := 55) S.1 S.2.1 dX0_many_49 (by decide) (fun h49 => ?_) (fun h49 => ?_)
        · refine n_iinc (lv' := [(4, .int (nI (i + 1))), (0, .ref (a 0)), (1, .int (nI t)), (2, .int y), (3, .int (nI k))]) (x := i) (k := 4) S dX0_many_55 hl rfl (by decide) rfl (fun ls hl => ?_)
          refine lv_goto (tgt := 22) S.1 S.2.1 dX0_many_58 (by decide) ?_
          exact ih (i + 1) k (by omega) h6 (by omega) (by rw [cnt, ← hk, mnP, h38]; first | (rw [decide_eq_true h49]; rfl) | (rw [decide_eq_false h49]; rfl) | rfl) ls (lv_sub hl [1, 2, 3, 4, 0] rfl)
        · refine n_iinc (lv' := [(3, .int (nI (k + 1))), (0, .ref (a 0)), (1, .int (nI t)), (2, .int y), (4, .int (nI i))]) (x := k) (k := 3) S dX0_many_52 hl rfl (by decide) rfl (fun ls hl => ?_)
          refine n_iinc (lv' := [(4, .int (nI (i + 1))), (3, .int (nI (k + 1))), (0, .ref (a 0)), (1, .int (nI t)), (2, .int y)]) (x := i) (k := 4) S dX0_many_55 hl rfl (by decide) rfl (fun ls hl => ?_)
          refine lv_goto (tgt := 22) S.1 S.2.1 dX0_many_58 (by decide) ?_
          exact ih (i + 1) (k + 1) (by omega) h6 (by omega) (by rw [cnt, ← hk, mnP, h38]; first | (rw [decide_eq_true h49]; rfl) | (rw [decide_eq_false h49]; rfl) | rfl) ls (lv_sub hl [2, 3, 4, 1, 0] rfl)
set_option maxRecDepth 100000 in
theorem kX0_many (l : Launch) (dC : Nat → ClassId) (dI : Nat → Nat → Nat) (cI cZ cJ : ClassId) (a : Nat → Nat) (n mw nf : Nat) (sg fo L le sc li ba ca st : Nat → Nat) (t : Nat) (y : Int32) (hI : iv n mw nf sg fo L le sc li ba ca) (ht : t < 4) : rd l yX0_many cX0_many 5 (some .int) 1 22 [.ref (a 0), .int (nI t), .int y] (rB dC dI cI cZ cJ (vX cI cZ a n mw nf sg fo L le sc li ba ca st)) (mny le li mw t y) := by
  refine rd_ofW RX0 (by decide) rfl (Nat.le_of_ble_eq_true rfl) ?_
  intro p e s m below meth c S hr hlk hB ls hl
  obtain ⟨hP, hK⟩ := hB
  have hl : lv_has ls 5 [(0, .ref (a 0)), (1, .int (nI t)), (2, .int y)] := hl
  obtain ⟨⟨hn, hm, hf⟩, ⟨hsg, hfo, hL, hle, hsc, hli, hba, hca⟩, hv1, hv2, hv3, hv4, hv5, hv6, hv7⟩ := id hI
  refine lv_iload_n S.1 S.2.1 dX0_many_0 rfl (lv_at hl 1 rfl) ?_
  refine rdv_callS (As := [.int (nI t)]) (rest := []) S (kX0_needList l t ht) tr_blind (fun _ _ _ => trivial) gX0_56 hdX0_needList (by decide) hl.1 rfl (Nat.le_of_ble_eq_true rfl) dX0_many_1 ⟨Nat.zero_le _, Nat.zero_le _⟩ ?_
  refine lv_iload_n S.1 S.2.1 dX0_many_4 rfl (lv_at hl 2 rfl) ?_
  refine lv_iconst (v := (nI 1)) S.1 S.2.1 dX0_many_5 (by decide) ?_
  refine lv_icmp_lt (tgt := 15) S.1 S.2.1 dX0_many_6 (by decide) (fun h6 => ?_) (fun h6 => ?_)
  · refine lv_iconst (v := -1) S.1 S.2.1 dX0_many_15 (by decide) ?_
    exact rd_ret S hr hlk (rfl) (by rw [mny, if_pos (by first | exact Or.inr (Int32.not_le.mp h12) | exact Or.inl h6)]) dX0_many_16
  · refine lv_iload_n S.1 S.2.1 dX0_many_9 rfl (lv_at hl 2 rfl) ?_
    refine lv_bipush (v := (nI 15)) S.1 S.2.1 dX0_many_10 (by decide) ?_
    refine lv_icmp_le (tgt := 17) S.1 S.2.1 dX0_many_12 (by decide) (fun h12 => ?_) (fun h12 => ?_)
    · refine lv_iconst (v := (nI 0)) S.1 S.2.1 dX0_many_17 (by decide) ?_
      refine lv_istore_n (lv' := [(3, .int (nI 0)), (0, .ref (a 0)), (1, .int (nI t)), (2, .int y)]) S.1 S.2.1 dX0_many_18 rfl hl (by decide) rfl (fun ls hl => ?_)
      refine lv_iconst (v := (nI 0)) S.1 S.2.1 dX0_many_19 (by decide) ?_
      refine lv_istore (lv' := [(4, .int (nI 0)), (3, .int (nI 0)), (0, .ref (a 0)), (1, .int (nI t)), (2, .int y)]) S.1 S.2.1 dX0_many_20 hl (by decide) rfl (fun ls hl => ?_)
      exact lX0_many_22 l dC dI cI cZ cJ a n mw nf sg fo L le sc li ba ca st t y hI ht S hr hlk hK hP _ 0 0 (Nat.lt_succ_self _) (fun q => q.elim h6 (fun q => absurd h12 (Int32.not_le.mpr q))) (by omega) rfl ls (lv_sub hl [2, 3, 4, 1, 0] rfl)
    · refine lv_iconst (v := -1) S.1 S.2.1 dX0_many_15 (by decide) ?_
      exact rd_ret S hr hlk (rfl) (by rw [mny, if_pos (by first | exact Or.inr (Int32.not_le.mp h12) | exact Or.inl h6)]) dX0_many_16

set_option maxRecDepth 100000 in
theorem lX0_letters_13 (l : Launch) (dC : Nat → ClassId) (dI : Nat → Nat → Nat) (cI cZ cJ : ClassId) (a : Nat → Nat) (n mw nf : Nat) (sg fo L le sc li ba ca st : Nat → Nat) (t : Nat) (y : Nat) (hI : iv n mw nf sg fo L le sc li ba ca) (ht : t < 4) (hy : 97 ≤ y ∧ y ≤ 122)  {p : Program} {e : Env} {s : State} {m : MethodId} {below : List Frame} {meth : Method} {c : Code} (S : CallFix p m c cX0_letters 5 s ([.ref (a 0), .int (nI t), .int (nI y)] : List Value).toArray tbG RX0) (hr : meth.sig.returnType = (some .int)) (hlk : meth.locks = false) (hK : va_K (dC, dI) vcl (vty cI cZ cJ) s) (hP : va_P (dC, dI) vcl (vX cI cZ a n mw nf sg fo L le sc li ba ca st) s.heap) :
    ∀ (fuel : Nat) (i : Nat) (k : Nat), mw - i < fuel → i ≤ mw → k = smm (ltF L le li t y) i → ∀ ls : Array Slot, lv_has ls 5 [(0, .ref (a 0)), (1, .int (nI t)), (2, .int (nI y)), (3, .int (nI k)), (4, .int (nI i))] → W p l e ({ frames := 2, cells := 0, slots := 0, locals := 46 } : Room) s m ([.ref (a 0), .int (nI t), .int (nI y)] : List Value).toArray below meth c s.heap [] 0 0 (MQ below (QcRead (nI (smm (ltF L le li t y) mw))) [.ref (a 0), .int (nI t), .int (nI y)].toArray s 0 0 (fun _ => False)) (F0 m 13 ls []) := by
  obtain ⟨⟨hn, hm, hf⟩, ⟨hsg, hfo, hL, hle, hsc, hli, hba, hca⟩, hv1, hv2, hv3, hv4, hv5, hv6, hv7⟩ := id hI
  intro fuel
  induction fuel with
  | zero =>
    intro i k hq
    exact absurd hq (Nat.not_lt_zero _)
  | succ fuel ih =>
    intro i k hq hi hk ls hl
    refine lv_iload S.1 S.2.1 dX0_letters_13 (lv_at hl 4 rfl) ?_
    refine lv_aload_n S.1 S.2.1 dX0_letters_15 rfl (lv_at hl 0 rfl) ?_
    refine fX0_wordCount (v := .int (nI mw)) S hK hP rfl rfl dX0_letters_16 ?_
    refine n_icmp_ge (x := i) (y := mw) (tgt := 48) S dX0_letters_19 (by decide) (by omega) (by omega) (fun h19 => ?_) (fun h19 => ?_)
    · refine lv_iload_n S.1 S.2.1 dX0_letters_48 rfl (lv_at hl 3 rfl) ?_
      exact rd_ret S hr hlk (rfl) (by rw [hk, show i = mw by omega]) dX0_letters_49
    · refine lv_aload_n S.1 S.2.1 dX0_letters_22 rfl (lv_at hl 0 rfl) ?_
      refine lv_iload S.1 S.2.1 dX0_letters_23 (lv_at hl 4 rfl) ?_
      refine lv_iload_n S.1 S.2.1 dX0_letters_25 rfl (lv_at hl 1 rfl) ?_
      refine rd_callV (C := RX0) (As := [.int (nI i), .int (nI t)]) (rest := []) S (kX0_isOf l dC dI cI cZ cJ a n mw nf sg fo L le sc li ba ca st i t hI (by omega) ht) rB_blind (fun U hU hW => ⟨by rw [hU]; exact hP, va_K.moved hW.alike hK⟩) (va_recv hK hP (ci := 0) (q0 := 0) rfl rfl) gX0_79 hdX0_isOf (by decide) hl.1 rfl (Nat.le_of_ble_eq_true rfl) dX0_letters_26 ⟨Nat.zero_le _, Nat.zero_le _⟩ ?_
      refine n_bif_eq (b := inl li i t) (tgt := 42) S dX0_letters_29 (by decide) (fun h29 => ?_) (fun h29 => ?_)
      · refine n_iinc (lv' := [(4, .int (nI (i + 1))), (0, .ref (a 0)), (1, .int (nI t)), (2, .int (nI y)), (3, .int (nI k))]) (x := i) (k := 4) S dX0_letters_42 hl rfl (by decide) rfl (fun ls hl => ?_)
        refine lv_goto (tgt := 13) S.1 S.2.1 dX0_letters_45 (by decide) ?_
        exact ih (i + 1) k (by omega) (by omega) (by rw [smm, ← hk, ltF, h29]; rfl) ls (lv_sub hl [1, 2, 3, 4, 0] rfl)
      · refine lv_iload_n S.1 S.2.1 dX0_letters_32 rfl (lv_at hl 3 rfl) ?_
        refine lv_aload_n S.1 S.2.1 dX0_letters_33 rfl (lv_at hl 0 rfl) ?_
        refine lv_iload S.1 S.2.1 dX0_letters_34 (lv_at hl 4 rfl) ?_
        refine lv_iload_n S.1 S.2.1 dX0_letters_36 rfl (lv_at hl 2 rfl) ?_
        refine rd_callV (C := RX0) (As := [.int (nI i), .int (nI y)]) (rest := [.int (nI k)]) S (kX0_timesInWord l dC dI cI cZ cJ a n mw nf sg fo L le sc li ba ca st i y hI (by omega) (by omega)) rB_blind (fun U hU hW => ⟨by rw [hU]; exact hP, va_K.moved hW.alike hK⟩) (va_recv hK hP (ci := 0) (q0 := 0) rfl rfl) gX0_109 hdX0_timesInWord (by decide) hl.1 rfl (Nat.le_of_ble_eq_true rfl) dX0_letters_37 ⟨Nat.zero_le _, Nat.zero_le _⟩ ?_
        refine n_iadd (x := k) (y := tiw L le y i) S dX0_letters_40 ?_
        refine lv_istore_n (lv' := [(3, .int (nI (k + (tiw L le y i)))), (0, .ref (a 0)), (1, .int (nI t)), (2, .int (nI y)), (4, .int (nI i))]) S.1 S.2.1 dX0_letters_41 rfl hl (by decide) rfl (fun ls hl => ?_)
        refine n_iinc (lv' := [(4, .int (nI (i + 1))), (3, .int (nI (k + (tiw L le y i)))), (0, .ref (a 0)), (1, .int (nI t)), (2, .int (nI y))]) (x := i) (k := 4) S dX0_letters_42 hl rfl (by decide) rfl (fun ls hl => ?_)
        refine lv_goto (tgt := 13) S.1 S.2.1 dX0_letters_45 (by decide) ?_
        exact ih (i + 1) (k + (tiw L le y i)) (by omega) (by omega) (by rw [smm, ← hk, ltF, h29]; rfl) ls (lv_sub hl [2, 3, 4, 1, 0] rfl)
set_option maxRecDepth 100000 in
theorem kX0_letters (l : Launch) (dC : Nat → ClassId) (dI : Nat → Nat → Nat) (cI cZ cJ : ClassId) (a : Nat → Nat) (n mw nf : Nat) (sg fo L le sc li ba ca st : Nat → Nat) (t : Nat) (y : Nat) (hI : iv n mw nf sg fo L le sc li ba ca) (ht : t < 4) (hy : 97 ≤ y ∧ y ≤ 122) : rd l yX0_letters cX0_letters 5 (some .int) 2 46 [.ref (a 0), .int (nI t), .int (nI y)] (rB dC dI cI cZ cJ (vX cI cZ a n mw nf sg fo L le sc li ba ca st)) (nI (smm (ltF L le li t y) mw)) := by
  refine rd_ofW RX0 (by decide) rfl (Nat.le_of_ble_eq_true rfl) ?_
  intro p e s m below meth c S hr hlk hB ls hl
  obtain ⟨hP, hK⟩ := hB
  have hl : lv_has ls 5 [(0, .ref (a 0)), (1, .int (nI t)), (2, .int (nI y))] := hl
  obtain ⟨⟨hn, hm, hf⟩, ⟨hsg, hfo, hL, hle, hsc, hli, hba, hca⟩, hv1, hv2, hv3, hv4, hv5, hv6, hv7⟩ := id hI
  refine lv_iload_n S.1 S.2.1 dX0_letters_0 rfl (lv_at hl 1 rfl) ?_
  refine rdv_callS (As := [.int (nI t)]) (rest := []) S (kX0_needList l t ht) tr_blind (fun _ _ _ => trivial) gX0_56 hdX0_needList (by decide) hl.1 rfl (Nat.le_of_ble_eq_true rfl) dX0_letters_1 ⟨Nat.zero_le _, Nat.zero_le _⟩ ?_
  refine lv_iload_n S.1 S.2.1 dX0_letters_4 rfl (lv_at hl 2 rfl) ?_
  refine rdv_callS (As := [.int (nI y)]) (rest := []) S (kX0_needLetter l y hy) tr_blind (fun _ _ _ => trivial) gX0_52 hdX0_needLetter (by decide) hl.1 rfl (Nat.le_of_ble_eq_true rfl) dX0_letters_5 ⟨Nat.zero_le _, Nat.zero_le _⟩ ?_
  refine lv_iconst (v := (nI 0)) S.1 S.2.1 dX0_letters_8 (by decide) ?_
  refine lv_istore_n (lv' := [(3, .int (nI 0)), (0, .ref (a 0)), (1, .int (nI t)), (2, .int (nI y))]) S.1 S.2.1 dX0_letters_9 rfl hl (by decide) rfl (fun ls hl => ?_)
  refine lv_iconst (v := (nI 0)) S.1 S.2.1 dX0_letters_10 (by decide) ?_
  refine lv_istore (lv' := [(4, .int (nI 0)), (3, .int (nI 0)), (0, .ref (a 0)), (1, .int (nI t)), (2, .int (nI y))]) S.1 S.2.1 dX0_letters_11 hl (by decide) rfl (fun ls hl => ?_)
  exact lX0_letters_13 l dC dI cI cZ cJ a n mw nf sg fo L le sc li ba ca st t y hI ht hy S hr hlk hK hP _ 0 0 (Nat.lt_succ_self _) (by omega) rfl ls (lv_sub hl [2, 3, 4, 1, 0] rfl)

set_option maxRecDepth 100000 in
theorem kX0_letter (l : Launch) (dC : Nat → ClassId) (dI : Nat → Nat → Nat) (cI cZ cJ : ClassId) (a : Nat → Nat) (n mw nf : Nat) (sg fo L le sc li ba ca st : Nat → Nat) (w : Nat) (x : Int32) (hI : iv n mw nf sg fo L le sc li ba ca) (hw : w < mw) : rd l yX0_letter cX0_letter 3 (some .int) 1 22 [.ref (a 0), .int (nI w), .int x] (rB dC dI cI cZ cJ (vX cI cZ a n mw nf sg fo L le sc li ba ca st)) (lon L le w x) := by
  refine rd_ofW RX0 (by decide) rfl (Nat.le_of_ble_eq_true rfl) ?_
  intro p e s m below meth c S hr hlk hB ls hl
  obtain ⟨hP, hK⟩ := hB
  have hl : lv_has ls 3 [(0, .ref (a 0)), (1, .int (nI w)), (2, .int x)] := hl
  obtain ⟨⟨hn, hm, hf⟩, ⟨hsg, hfo, hL, hle, hsc, hli, hba, hca⟩, hv1, hv2, hv3, hv4, hv5, hv6, hv7⟩ := id hI
  refine lv_aload_n S.1 S.2.1 dX0_letter_0 rfl (lv_at hl 0 rfl) ?_
  refine lv_iload_n S.1 S.2.1 dX0_letter_1 rfl (lv_at hl 1 rfl) ?_
  refine rdv_callV (C := RX0) (As := [.int (nI w)]) (rest := []) S (kX0_needWord l dC dI cI cZ cJ a n mw nf sg fo L le sc li ba ca st w hI hw) rB_blind (fun U hU hW => ⟨by rw [hU]; exact hP, va_K.moved hW.alike hK⟩) (va_recv hK hP (ci := 0) (q0 := 0) rfl rfl) gX0_112 hdX0_needWord (by decide) hl.1 rfl (Nat.le_of_ble_eq_true rfl) dX0_letter_2 ⟨Nat.zero_le _, Nat.zero_le _⟩ ?_
  refine lv_aload_n S.1 S.2.1 dX0_letter_5 rfl (lv_at hl 0 rfl) ?_
  refine lv_iload_n S.1 S.2.1 dX0_letter_6 rfl (lv_at hl 1 rfl) ?_
  refine lv_iload_n S.1 S.2.1 dX0_letter_7 rfl (lv_at hl 2 rfl) ?_
  refine rd_callV (C := RX0) (As := [.int (nI w), .int x]) (rest := []) S (kX0_letterOrNone l dC dI cI cZ cJ a n mw nf sg fo L le sc li ba ca st w x hI (by omega)) rB_blind (fun U hU hW => ⟨by rw [hU]; exact hP, va_K.moved hW.alike hK⟩) (va_recv hK hP (ci := 0) (q0 := 0) rfl rfl) gX0_100 hdX0_letterOrNone (by decide) hl.1 rfl (Nat.le_of_ble_eq_true rfl) dX0_letter_8 ⟨Nat.zero_le _, Nat.zero_le _⟩ ?_
  exact rd_ret S hr hlk (rfl) (rfl) dX0_letter_11

set_option maxRecDepth 100000 in
theorem kX0_tell (l : Launch) (dC : Nat → ClassId) (dI : Nat → Nat → Nat) (cI cZ cJ : ClassId) (a : Nat → Nat) (n mw nf : Nat) (sg fo L le sc li ba ca st : Nat → Nat) (w : Nat) (x : Int32) (hI : iv n mw nf sg fo L le sc li ba ca) (hw : w < mw) : rd l yX0_tell cX0_tell 3 (some .int) 1 21 [.ref (a 0), .int (nI w), .int x] (rB dC dI cI cZ cJ (vX cI cZ a n mw nf sg fo L le sc li ba ca st)) (tel le sc li ba w x) := by
  refine rd_ofW RX0 (by decide) rfl (Nat.le_of_ble_eq_true rfl) ?_
  intro p e s m below meth c S hr hlk hB ls hl
  obtain ⟨hP, hK⟩ := hB
  have hl : lv_has ls 3 [(0, .ref (a 0)), (1, .int (nI w)), (2, .int x)] := hl
  obtain ⟨⟨hn, hm, hf⟩, ⟨hsg, hfo, hL, hle, hsc, hli, hba, hca⟩, hv1, hv2, hv3, hv4, hv5, hv6, hv7⟩ := id hI
  refine lv_aload_n S.1 S.2.1 dX0_tell_0 rfl (lv_at hl 0 rfl) ?_
  refine lv_iload_n S.1 S.2.1 dX0_tell_1 rfl (lv_at hl 1 rfl) ?_
  refine rdv_callV (C := RX0) (As := [.int (nI w)]) (rest := []) S (kX0_needWord l dC dI cI cZ cJ a n mw nf sg fo L le sc li ba ca st w hI hw) rB_blind (fun U hU hW => ⟨by rw [hU]; exact hP, va_K.moved hW.alike hK⟩) (va_recv hK hP (ci := 0) (q0 := 0) rfl rfl) gX0_112 hdX0_needWord (by decide) hl.1 rfl (Nat.le_of_ble_eq_true rfl) dX0_tell_2 ⟨Nat.zero_le _, Nat.zero_le _⟩ ?_
  refine lv_iload_n S.1 S.2.1 dX0_tell_5 rfl (lv_at hl 2 rfl) ?_
  by_cases q0 : x = nI 0
  · refine lv_tableIn (tgt := 36) S.1 S.2.1 dX0_tell_6 (by rw [q0]; decide) (by rw [q0]; decide) (by rw [q0]; rfl) (by decide) ?_
    refine lv_aload_n S.1 S.2.1 dX0_tell_36 rfl (lv_at hl 0 rfl) ?_
    refine fX0_wordScores (v := .ref (a 5)) S hK hP rfl rfl dX0_tell_37 ?_
    refine lv_iload_n S.1 S.2.1 dX0_tell_40 rfl (lv_at hl 1 rfl) ?_
    refine n_iald S hK hP 5 0 rfl rfl dX0_tell_41 (j := w) (by decide) (by omega) ?_
    have b41 := hsc w
    exact rd_ret S hr hlk (rfl) (by rw [tel, if_pos q0]) dX0_tell_42
  by_cases q1 : x = nI 1
  · refine lv_tableIn (tgt := 43) S.1 S.2.1 dX0_tell_6 (by rw [q1]; decide) (by rw [q1]; decide) (by rw [q1]; rfl) (by decide) ?_
    refine lv_aload_n S.1 S.2.1 dX0_tell_43 rfl (lv_at hl 0 rfl) ?_
    refine fX0_wordListBits (v := .ref (a 6)) S hK hP rfl rfl dX0_tell_44 ?_
    refine lv_iload_n S.1 S.2.1 dX0_tell_47 rfl (lv_at hl 1 rfl) ?_
    refine n_iald S hK hP 6 0 rfl rfl dX0_tell_48 (j := w) (by decide) (by omega) ?_
    have b48 := hli w
    exact rd_ret S hr hlk (rfl) (by rw [tel, if_neg q0, if_pos q1]) dX0_tell_49
  by_cases q2 : x = nI 2
  · refine lv_tableIn (tgt := 50) S.1 S.2.1 dX0_tell_6 (by rw [q2]; decide) (by rw [q2]; decide) (by rw [q2]; rfl) (by decide) ?_
    refine lv_aload_n S.1 S.2.1 dX0_tell_50 rfl (lv_at hl 0 rfl) ?_
    refine fX0_wordBarred (v := .ref (a 7)) S hK hP rfl rfl dX0_tell_51 ?_
    refine lv_iload_n S.1 S.2.1 dX0_tell_54 rfl (lv_at hl 1 rfl) ?_
    refine n_zald S hK hP 7 1 rfl rfl dX0_tell_55 (j := w) (by decide) (by omega) ?_
    have b55 := hba w
    refine n_if_eq (x := ba w) (tgt := 63) S dX0_tell_56 (by decide) (by omega) (fun h56 => ?_) (fun h56 => ?_)
    · refine lv_iconst (v := (nI 0)) S.1 S.2.1 dX0_tell_63 (by decide) ?_
      exact rd_ret S hr hlk (rfl) (by rw [tel, if_neg q0, if_neg q1, if_pos q2]; have := hba w; first | rw [h56] | rw [show ba w = 1 by omega]) dX0_tell_64
    · refine lv_iconst (v := (nI 1)) S.1 S.2.1 dX0_tell_59 (by decide) ?_
      refine lv_goto (tgt := 64) S.1 S.2.1 dX0_tell_60 (by decide) ?_
      exact rd_ret S hr hlk (rfl) (by rw [tel, if_neg q0, if_neg q1, if_pos q2]; have := hba w; first | rw [h56] | rw [show ba w = 1 by omega]) dX0_tell_64
  by_cases q3 : x = nI 3
  · refine lv_tableIn (tgt := 65) S.1 S.2.1 dX0_tell_6 (by rw [q3]; decide) (by rw [q3]; decide) (by rw [q3]; rfl) (by decide) ?_
    refine lv_aload_n S.1 S.2.1 dX0_tell_65 rfl (lv_at hl 0 rfl) ?_
    refine fX0_wordLengths (v := .ref (a 4)) S hK hP rfl rfl dX0_tell_66 ?_
    refine lv_iload_n S.1 S.2.1 dX0_tell_69 rfl (lv_at hl 1 rfl) ?_
    refine n_iald S hK hP 4 0 rfl rfl dX0_tell_70 (j := w) (by decide) (by omega) ?_
    have b70 := hle w
    exact rd_ret S hr hlk (rfl) (by rw [tel, if_neg q0, if_neg q1, if_neg q2, if_pos q3]) dX0_tell_71
  refine lv_tableOut (tgt := 72) S.1 S.2.1 dX0_tell_6 (tb_out4 ⟨q0, q1, q2, q3⟩) (by decide) ?_
  refine lv_iconst (v := -1) S.1 S.2.1 dX0_tell_72 (by decide) ?_
  exact rd_ret S hr hlk (rfl) (by rw [tel, if_neg q0, if_neg q1, if_neg q2, if_neg q3]) dX0_tell_73

set_option maxRecDepth 100000 in
theorem lX0_common_11 (l : Launch) (dC : Nat → ClassId) (dI : Nat → Nat → Nat) (cI cZ cJ : ClassId) (a : Nat → Nat) (n mw nf : Nat) (sg fo L le sc li ba ca st : Nat → Nat) (t : Nat) (hI : iv n mw nf sg fo L le sc li ba ca) (ht : t < 4)  {p : Program} {e : Env} {s : State} {m : MethodId} {below : List Frame} {meth : Method} {c : Code} (S : CallFix p m c cX0_common 5 s ([.ref (a 0), .int (nI t)] : List Value).toArray tbG RX0) (hr : meth.sig.returnType = (some .int)) (hlk : meth.locks = false) (hK : va_K (dC, dI) vcl (vty cI cZ cJ) s) (hP : va_P (dC, dI) vcl (vX cI cZ a n mw nf sg fo L le sc li ba ca st) s.heap) :
    ∀ (fuel : Nat) (i : Nat) (f : Nat) (k : Nat), mw - i < fuel → i ≤ mw → (f, k) = cmn L le li ba t i → k ≤ 15 ∧ f ≤ i → ∀ ls : Array Slot, lv_has ls 5 [(0, .ref (a 0)), (1, .int (nI t)), (2, .int (ffo f)), (3, .int (nI k)), (4, .int (nI i))] → W p l e ({ frames := 2, cells := 0, slots := 0, locals := 46 } : Room) s m ([.ref (a 0), .int (nI t)] : List Value).toArray below meth c s.heap [] 0 0 (MQ below (QcRead (nI ((cmn L le li ba t mw).2))) [.ref (a 0), .int (nI t)].toArray s 0 0 (fun _ => False)) (F0 m 11 ls []) := by
  obtain ⟨⟨hn, hm, hf⟩, ⟨hsg, hfo, hL, hle, hsc, hli, hba, hca⟩, hv1, hv2, hv3, hv4, hv5, hv6, hv7⟩ := id hI
  intro fuel
  induction fuel with
  | zero =>
    intro i f k hq
    exact absurd hq (Nat.not_lt_zero _)
  | succ fuel ih =>
    intro i f k hq hi hc hk ls hl
    have hlei := hle i
    refine lv_iload S.1 S.2.1 dX0_common_11 (lv_at hl 4 rfl) ?_
    refine lv_aload_n S.1 S.2.1 dX0_common_13 rfl (lv_at hl 0 rfl) ?_
    refine fX0_wordCount (v := .int (nI mw)) S hK hP rfl rfl dX0_common_14 ?_
    refine n_icmp_ge (x := i) (y := mw) (tgt := 67) S dX0_common_17 (by decide) (by omega) (by omega) (fun h17 => ?_) (fun h17 => ?_)
    · refine lv_iload_n S.1 S.2.1 dX0_common_67 rfl (lv_at hl 3 rfl) ?_
      exact rd_ret S hr hlk (rfl) (by rw [show mw = i by omega, ← hc]) dX0_common_68
    · refine lv_aload_n S.1 S.2.1 dX0_common_20 rfl (lv_at hl 0 rfl) ?_
      refine lv_iload S.1 S.2.1 dX0_common_21 (lv_at hl 4 rfl) ?_
      refine lv_iload_n S.1 S.2.1 dX0_common_23 rfl (lv_at hl 1 rfl) ?_
      refine rd_callV (C := RX0) (As := [.int (nI i), .int (nI t)]) (rest := []) S (kX0_isFreeIn l dC dI cI cZ cJ a n mw nf sg fo L le sc li ba ca st i t hI (by omega) ht) rB_blind (fun U hU hW => ⟨by rw [hU]; exact hP, va_K.moved hW.alike hK⟩) (va_recv hK hP (ci := 0) (q0 := 0) rfl rfl) gX0_87 hdX0_isFreeIn (by decide) hl.1 rfl (Nat.le_of_ble_eq_true rfl) dX0_common_24 ⟨Nat.zero_le _, Nat.zero_le _⟩ ?_
      refine n_bif_eq (b := fre li ba t i) (tgt := 61) S dX0_common_27 (by decide) (fun h27 => ?_) (fun h27 => ?_)
      · refine n_iinc (lv' := [(4, .int (nI (i + 1))), (0, .ref (a 0)), (1, .int (nI t)), (2, .int (ffo f)), (3, .int (nI k))]) (x := i) (k := 4) S dX0_common_61 hl rfl (by decide) rfl (fun ls hl => ?_)
        refine lv_goto (tgt := 11) S.1 S.2.1 dX0_common_64 (by decide) ?_
        exact ih (i + 1) f k (by omega) (by omega) (by first | (rw [cmn, ← hc, h27]; done) | (have hf0 : f = 0 := ffo_z h32 (by omega); rw [cmn, ← hc, h27, hf0]; rfl) | (rw [cmn, ← hc, h27]; exact (if_neg hf1).symm)) (by omega) ls (lv_sub hl [1, 2, 3, 4, 0] (by first | rfl | (rw [show ffo f = nI (f - 1) from if_neg hf1]; rfl)))
      · refine lv_iload_n S.1 S.2.1 dX0_common_30 rfl (lv_at hl 2 rfl) ?_
        refine lv_iconst (v := -1) S.1 S.2.1 dX0_common_31 (by decide) ?_
        refine lv_icmp_ne (tgt := 49) S.1 S.2.1 dX0_common_32 (by decide) (fun h32 => ?_) (fun h32 => ?_)
        · have hf1 : f ≠ 0 := fun q => h32 (by rw [q]; rfl)
          rw [show ffo f = nI (f - 1) from if_neg hf1] at hl
          refine lv_iload_n S.1 S.2.1 dX0_common_49 rfl (lv_at hl 3 rfl) ?_
          refine lv_aload_n S.1 S.2.1 dX0_common_50 rfl (lv_at hl 0 rfl) ?_
          refine lv_iload_n S.1 S.2.1 dX0_common_51 rfl (lv_at hl 2 rfl) ?_
          refine lv_iload S.1 S.2.1 dX0_common_52 (lv_at hl 4 rfl) ?_
          refine rd_callV (C := RX0) (As := [.int (nI (f - 1)), .int (nI i)]) (rest := [.int (nI k)]) S (kX0_sharedBeginning l dC dI cI cZ cJ a n mw nf sg fo L le sc li ba ca st (f - 1) i hI (by omega) (by omega)) rB_blind (fun U hU hW => ⟨by rw [hU]; exact hP, va_K.moved hW.alike hK⟩) (va_recv hK hP (ci := 0) (q0 := 0) rfl rfl) gX0_115 hdX0_sharedBeginning (by decide) hl.1 rfl (Nat.le_of_ble_eq_true rfl) dX0_common_54 ⟨Nat.zero_le _, Nat.zero_le _⟩ ?_
          have b54 := lcp_le (fun j => L (15 * (f - 1) + j)) (fun j => L (15 * i + j)) (min (le (f - 1)) (le i))
          refine n_min (x := k) (y := lcp (fun j => L (15 * (f - 1) + j)) (fun j => L (15 * i + j)) (min (le (f - 1)) (le i))) S hl.1 (by decide) (Nat.le_of_ble_eq_true rfl) ⟨Nat.zero_le _, Nat.zero_le _⟩ (by omega) (by omega) dX0_common_57 ?_
          refine lv_istore_n (lv' := [(3, .int (nI (min k (lcp (fun j => L (15 * (f - 1) + j)) (fun j => L (15 * i + j)) (min (le (f - 1)) (le i)))))), (0, .ref (a 0)), (1, .int (nI t)), (2, .int (nI (f - 1))), (4, .int (nI i))]) S.1 S.2.1 dX0_common_60 rfl hl (by decide) rfl (fun ls hl => ?_)
          refine n_iinc (lv' := [(4, .int (nI (i + 1))), (3, .int (nI (min k (lcp (fun j => L (15 * (f - 1) + j)) (fun j => L (15 * i + j)) (min (le (f - 1)) (le i)))))), (0, .ref (a 0)), (1, .int (nI t)), (2, .int (nI (f - 1)))]) (x := i) (k := 4) S dX0_common_61 hl rfl (by decide) rfl (fun ls hl => ?_)
          refine lv_goto (tgt := 11) S.1 S.2.1 dX0_common_64 (by decide) ?_
          exact ih (i + 1) f (min k (lcp (fun j => L (15 * (f - 1) + j)) (fun j => L (15 * i + j)) (min (le (f - 1)) (le i)))) (by omega) (by omega) (by first | (rw [cmn, ← hc, h27]; done) | (have hf0 : f = 0 := ffo_z h32 (by omega); rw [cmn, ← hc, h27, hf0]; rfl) | (rw [cmn, ← hc, h27]; exact (if_neg hf1).symm)) (by omega) ls (lv_sub hl [2, 3, 4, 1, 0] (by first | rfl | (rw [show ffo f = nI (f - 1) from if_neg hf1]; rfl)))
        · refine lv_iload S.1 S.2.1 dX0_common_35 (lv_at hl 4 rfl) ?_
          refine lv_istore_n (lv' := [(2, .int (nI i)), (0, .ref (a 0)), (1, .int (nI t)), (3, .int (nI k)), (4, .int (nI i))]) S.1 S.2.1 dX0_common_37 rfl hl (by decide) rfl (fun ls hl => ?_)
          refine lv_aload_n S.1 S.2.1 dX0_common_38 rfl (lv_at hl 1 rfl) ?_
          refine fX0_wordLengths (v := .ref (a 4)) S hK hP rfl rfl dX0_common_39 ?_
          refine lv_iload S.1 S.2.1 dX0_common_42 (lv_at hl 4 rfl) ?_
          refine n_iald S hK hP 4 0 rfl rfl dX0_common_44 (j := i) (by decide) (by omega) ?_
          have b44 := hle i
          refine lv_istore_n (lv' := [(3, .int (nI (le i))), (2, .int (nI i)), (0, .ref (a 0)), (1, .int (nI t)), (4, .int (nI i))]) S.1 S.2.1 dX0_common_45 rfl hl (by decide) rfl (fun ls hl => ?_)
          refine lv_goto (tgt := 61) S.1 S.2.1 dX0_common_46 (by decide) ?_
          refine n_iinc (lv' := [(4, .int (nI (i + 1))), (3, .int (nI (le i))), (2, .int (nI i)), (0, .ref (a 0)), (1, .int (nI t))]) (x := i) (k := 4) S dX0_common_61 hl rfl (by decide) rfl (fun ls hl => ?_)
          refine lv_goto (tgt := 11) S.1 S.2.1 dX0_common_64 (by decide) ?_
          exact ih (i + 1) (i + 1) (le i) (by omega) (by omega) (by first | (rw [cmn, ← hc, h27]; done) | (have hf0 : f = 0 := ffo_z h32 (by omega); rw [cmn, ← hc, h27, hf0]; rfl) | (rw [cmn, ← hc, h27]; exact (if_neg hf1).symm)) (by omega) ls (lv_sub hl [3, 4, 2, 1, 0] (by first | rfl | (rw [show ffo f = nI (f - 1) from if_neg hf1]; rfl)))
set_option maxRecDepth 100000 in
theorem kX0_common (l : Launch) (dC : Nat → ClassId) (dI : Nat → Nat → Nat) (cI cZ cJ : ClassId) (a : Nat → Nat) (n mw nf : Nat) (sg fo L le sc li ba ca st : Nat → Nat) (t : Nat) (hI : iv n mw nf sg fo L le sc li ba ca) (ht : t < 4) : rd l yX0_common cX0_common 5 (some .int) 2 46 [.ref (a 0), .int (nI t)] (rB dC dI cI cZ cJ (vX cI cZ a n mw nf sg fo L le sc li ba ca st)) (nI ((cmn L le li ba t mw).2)) := by
  refine rd_ofW RX0 (by decide) rfl (Nat.le_of_ble_eq_true rfl) ?_
  intro p e s m below meth c S hr hlk hB ls hl
  obtain ⟨hP, hK⟩ := hB
  have hl : lv_has ls 5 [(0, .ref (a 0)), (1, .int (nI t))] := hl
  obtain ⟨⟨hn, hm, hf⟩, ⟨hsg, hfo, hL, hle, hsc, hli, hba, hca⟩, hv1, hv2, hv3, hv4, hv5, hv6, hv7⟩ := id hI
  refine lv_iload_n S.1 S.2.1 dX0_common_0 rfl (lv_at hl 1 rfl) ?_
  refine rdv_callS (As := [.int (nI t)]) (rest := []) S (kX0_needList l t ht) tr_blind (fun _ _ _ => trivial) gX0_56 hdX0_needList (by decide) hl.1 rfl (Nat.le_of_ble_eq_true rfl) dX0_common_1 ⟨Nat.zero_le _, Nat.zero_le _⟩ ?_
  refine lv_iconst (v := -1) S.1 S.2.1 dX0_common_4 (by decide) ?_
  refine lv_istore_n (lv' := [(2, .int (-1)), (0, .ref (a 0)), (1, .int (nI t))]) S.1 S.2.1 dX0_common_5 rfl hl (by decide) rfl (fun ls hl => ?_)
  refine lv_iconst (v := (nI 0)) S.1 S.2.1 dX0_common_6 (by decide) ?_
  refine lv_istore_n (lv' := [(3, .int (nI 0)), (2, .int (-1)), (0, .ref (a 0)), (1, .int (nI t))]) S.1 S.2.1 dX0_common_7 rfl hl (by decide) rfl (fun ls hl => ?_)
  refine lv_iconst (v := (nI 0)) S.1 S.2.1 dX0_common_8 (by decide) ?_
  refine lv_istore (lv' := [(4, .int (nI 0)), (3, .int (nI 0)), (2, .int (-1)), (0, .ref (a 0)), (1, .int (nI t))]) S.1 S.2.1 dX0_common_9 hl (by decide) rfl (fun ls hl => ?_)
  exact lX0_common_11 l dC dI cI cZ cJ a n mw nf sg fo L le sc li ba ca st t hI ht S hr hlk hK hP _ 0 0 0 (Nat.lt_succ_self _) (by omega) rfl (by omega) ls (lv_sub hl [3, 4, 2, 1, 0] (by first | rfl | (rw [show ffo f = nI (f - 1) from if_neg hf1]; rfl)))
end
section
/-! ===== the reference: its readers ===== -/
theorem lt123 {u : Int32} (h : u ≤ nI 122) : u < nI 123 := by
  have a := Int32.le_iff_toInt_le.mp h
  rw [show (nI 122).toInt = 122 by decide] at a
  rw [Int32.lt_iff_toInt_lt, show (nI 123).toInt = 123 by decide]
  omega
theorem le122 {u : Int32} (h : u < nI 123) : u ≤ nI 122 := by
  have a := Int32.lt_iff_toInt_lt.mp h
  rw [show (nI 123).toInt = 123 by decide] at a
  rw [Int32.le_iff_toInt_le, show (nI 122).toInt = 122 by decide]
  omega
def isW (mw : Nat) (u : Int32) : Bool := decide (nI 0 ≤ u) && decide (u < nI mw)
theorem isW_t {mw : Nat} {u : Int32} (hm : mw < 2 ^ 31) (h : isW mw u = true) : ∃ j : Nat, j < mw ∧ u = nI j := by
  simp only [isW, Bool.and_eq_true, decide_eq_true_eq] at h
  obtain ⟨j, hj, rfl⟩ := nI_of (Int32.not_lt.mpr (show (0 : Int32) ≤ u from h.1))
  exact ⟨j, (nI_ltI hj hm).mp h.2, rfl⟩
theorem isW_n {mw j : Nat} (hm : mw < 2 ^ 31) (h : j < mw) : isW mw (nI j) = true := by
  simp only [isW, Bool.and_eq_true, decide_eq_true_eq]
  exact ⟨nI_le (Nat.zero_le j) (by omega), nI_lt h hm⟩
theorem isLi_n {j : Nat} (h : j < 4) : isLi (nI j) = true := by
  simp only [isLi, Bool.and_eq_true, decide_eq_true_eq]
  exact ⟨nI_le (Nat.zero_le j) (by omega), nI_lt h (by decide)⟩
theorem isL_i {j : Nat} (h : 97 ≤ j ∧ j ≤ 122) : isL (nI j) = true := by
  rw [isL_n (by omega), decide_eq_true h.1, decide_eq_true (by omega)]; rfl
set_option maxRecDepth 100000 in
theorem kX1_thrown (l : Launch) (dC : Nat → ClassId) (dI : Nat → Nat → Nat) (cI cZ cJ : ClassId) (a : Nat → Nat) (th n mw nf : Nat) (sg fo L le sc li ba ca : Nat → Nat) (wa : Nat → Int32) : rd l yX1_thrown cX1_thrown 1 (some .int) 0 0 [.ref (a 0)] (rB dC dI cI cZ cJ (vY cI cZ a th n mw nf sg fo L le sc li ba ca wa)) (nI (th)) := by
  refine rd_ofW RX1 (by decide) rfl (Nat.le_of_ble_eq_true rfl) ?_
  intro p e s m below meth c S hr hlk hB ls hl
  obtain ⟨hP, hK⟩ := hB
  have hl : lv_has ls 1 [(0, .ref (a 0))] := hl
  refine lv_aload_n S.1 S.2.1 dX1_thrown_0 rfl (lv_at hl 0 rfl) ?_
  refine fX1_thrown (v := .int (nI th)) S hK hP rfl rfl dX1_thrown_1 ?_
  exact rd_ret S hr hlk (rfl) (rfl) dX1_thrown_4

set_option maxRecDepth 100000 in
theorem kX1_isLetter (l : Launch) (u : Int32) : rd l yX1_isLetter cX1_isLetter 1 (some .boolean) 0 0 [.int u] (fun _ => True) (nI (isL u).toNat) := by
  refine rd_ofW RX1 (by decide) rfl (Nat.le_of_ble_eq_true rfl) ?_
  intro p e s m below meth c S hr hlk hB ls hl
  have hl : lv_has ls 1 [(0, .int u)] := hl
  refine lv_iload_n S.1 S.2.1 dX1_isLetter_0 rfl (lv_at hl 0 rfl) ?_
  refine lv_bipush (v := (nI 97)) S.1 S.2.1 dX1_isLetter_1 (by decide) ?_
  refine lv_icmp_lt (tgt := 16) S.1 S.2.1 dX1_isLetter_3 (by decide) (fun h3 => ?_) (fun h3 => ?_)
  · refine lv_iconst (v := (nI 0)) S.1 S.2.1 dX1_isLetter_16 (by decide) ?_
    exact rd_ret S hr hlk (rfl) (by first | (simp only [isL, decide_eq_true (Int32.not_lt.mp h3), decide_eq_true (lt123 (Int32.not_lt.mp h9))]; rfl) | (simp only [isL, decide_eq_false (fun q => absurd h9 (Int32.not_lt.mpr (le122 q))), Bool.and_false]; rfl) | (simp only [isL, decide_eq_false (Int32.not_le.mpr h3), Bool.false_and]; rfl)) dX1_isLetter_17
  · refine lv_iload_n S.1 S.2.1 dX1_isLetter_6 rfl (lv_at hl 0 rfl) ?_
    refine lv_bipush (v := (nI 122)) S.1 S.2.1 dX1_isLetter_7 (by decide) ?_
    refine lv_icmp_gt (tgt := 16) S.1 S.2.1 dX1_isLetter_9 (by decide) (fun h9 => ?_) (fun h9 => ?_)
    · refine lv_iconst (v := (nI 0)) S.1 S.2.1 dX1_isLetter_16 (by decide) ?_
      exact rd_ret S hr hlk (rfl) (by first | (simp only [isL, decide_eq_true (Int32.not_lt.mp h3), decide_eq_true (lt123 (Int32.not_lt.mp h9))]; rfl) | (simp only [isL, decide_eq_false (fun q => absurd h9 (Int32.not_lt.mpr (le122 q))), Bool.and_false]; rfl) | (simp only [isL, decide_eq_false (Int32.not_le.mpr h3), Bool.false_and]; rfl)) dX1_isLetter_17
    · refine lv_iconst (v := (nI 1)) S.1 S.2.1 dX1_isLetter_12 (by decide) ?_
      refine lv_goto (tgt := 17) S.1 S.2.1 dX1_isLetter_13 (by decide) ?_
      exact rd_ret S hr hlk (rfl) (by first | (simp only [isL, decide_eq_true (Int32.not_lt.mp h3), decide_eq_true (lt123 (Int32.not_lt.mp h9))]; rfl) | (simp only [isL, decide_eq_false (fun q => absurd h9 (Int32.not_lt.mpr (le122 q))), Bool.and_false]; rfl) | (simp only [isL, decide_eq_false (Int32.not_le.mpr h3), Bool.false_and]; rfl)) dX1_isLetter_17

set_option maxRecDepth 100000 in
theorem kX1_isList (l : Launch) (u : Int32) : rd l yX1_isList cX1_isList 1 (some .boolean) 0 0 [.int u] (fun _ => True) (nI (isLi u).toNat) := by
  refine rd_ofW RX1 (by decide) rfl (Nat.le_of_ble_eq_true rfl) ?_
  intro p e s m below meth c S hr hlk hB ls hl
  have hl : lv_has ls 1 [(0, .int u)] := hl
  refine lv_iload_n S.1 S.2.1 dX1_isList_0 rfl (lv_at hl 0 rfl) ?_
  refine lv_if_lt (tgt := 13) S.1 S.2.1 dX1_isList_1 (by decide) (fun h1 => ?_) (fun h1 => ?_)
  · refine lv_iconst (v := (nI 0)) S.1 S.2.1 dX1_isList_13 (by decide) ?_
    exact rd_ret S hr hlk (rfl) (by first | (simp only [isLi, decide_eq_true (show nI 0 ≤ u from Int32.not_lt.mp h1), decide_eq_true (Int32.not_le.mp h6)]; rfl) | (simp only [isLi, decide_eq_false (Int32.not_lt.mpr h6), Bool.and_false]; rfl) | (simp only [isLi, decide_eq_false (show ¬ nI 0 ≤ u from Int32.not_le.mpr h1), Bool.false_and]; rfl)) dX1_isList_14
  · refine lv_iload_n S.1 S.2.1 dX1_isList_4 rfl (lv_at hl 0 rfl) ?_
    refine lv_iconst (v := (nI 4)) S.1 S.2.1 dX1_isList_5 (by decide) ?_
    refine lv_icmp_ge (tgt := 13) S.1 S.2.1 dX1_isList_6 (by decide) (fun h6 => ?_) (fun h6 => ?_)
    · refine lv_iconst (v := (nI 0)) S.1 S.2.1 dX1_isList_13 (by decide) ?_
      exact rd_ret S hr hlk (rfl) (by first | (simp only [isLi, decide_eq_true (show nI 0 ≤ u from Int32.not_lt.mp h1), decide_eq_true (Int32.not_le.mp h6)]; rfl) | (simp only [isLi, decide_eq_false (Int32.not_lt.mpr h6), Bool.and_false]; rfl) | (simp only [isLi, decide_eq_false (show ¬ nI 0 ≤ u from Int32.not_le.mpr h1), Bool.false_and]; rfl)) dX1_isList_14
    · refine lv_iconst (v := (nI 1)) S.1 S.2.1 dX1_isList_9 (by decide) ?_
      refine lv_goto (tgt := 14) S.1 S.2.1 dX1_isList_10 (by decide) ?_
      exact rd_ret S hr hlk (rfl) (by first | (simp only [isLi, decide_eq_true (show nI 0 ≤ u from Int32.not_lt.mp h1), decide_eq_true (Int32.not_le.mp h6)]; rfl) | (simp only [isLi, decide_eq_false (Int32.not_lt.mpr h6), Bool.and_false]; rfl) | (simp only [isLi, decide_eq_false (show ¬ nI 0 ≤ u from Int32.not_le.mpr h1), Bool.false_and]; rfl)) dX1_isList_14

set_option maxRecDepth 100000 in
theorem kX1_isWord (l : Launch) (dC : Nat → ClassId) (dI : Nat → Nat → Nat) (cI cZ cJ : ClassId) (a : Nat → Nat) (th n mw nf : Nat) (sg fo L le sc li ba ca : Nat → Nat) (wa : Nat → Int32) (u : Int32) : rd l yX1_isWord cX1_isWord 2 (some .boolean) 0 0 [.ref (a 0), .int u] (rB dC dI cI cZ cJ (vY cI cZ a th n mw nf sg fo L le sc li ba ca wa)) (nI (isW mw u).toNat) := by
  refine rd_ofW RX1 (by decide) rfl (Nat.le_of_ble_eq_true rfl) ?_
  intro p e s m below meth c S hr hlk hB ls hl
  obtain ⟨hP, hK⟩ := hB
  have hl : lv_has ls 2 [(0, .ref (a 0)), (1, .int u)] := hl
  refine lv_iload_n S.1 S.2.1 dX1_isWord_0 rfl (lv_at hl 1 rfl) ?_
  refine lv_if_lt (tgt := 16) S.1 S.2.1 dX1_isWord_1 (by decide) (fun h1 => ?_) (fun h1 => ?_)
  · refine lv_iconst (v := (nI 0)) S.1 S.2.1 dX1_isWord_16 (by decide) ?_
    exact rd_ret S hr hlk (rfl) (by first | (simp only [isW, decide_eq_true (show nI 0 ≤ u from Int32.not_lt.mp h1), decide_eq_true (Int32.not_le.mp h9)]; rfl) | (simp only [isW, decide_eq_false (Int32.not_lt.mpr h9), Bool.and_false]; rfl) | (simp only [isW, decide_eq_false (show ¬ nI 0 ≤ u from Int32.not_le.mpr h1), Bool.false_and]; rfl)) dX1_isWord_17
  · refine lv_iload_n S.1 S.2.1 dX1_isWord_4 rfl (lv_at hl 1 rfl) ?_
    refine lv_aload_n S.1 S.2.1 dX1_isWord_5 rfl (lv_at hl 0 rfl) ?_
    refine fX1_many (v := .int (nI mw)) S hK hP rfl rfl dX1_isWord_6 ?_
    refine lv_icmp_ge (tgt := 16) S.1 S.2.1 dX1_isWord_9 (by decide) (fun h9 => ?_) (fun h9 => ?_)
    · refine lv_iconst (v := (nI 0)) S.1 S.2.1 dX1_isWord_16 (by decide) ?_
      exact rd_ret S hr hlk (rfl) (by first | (simp only [isW, decide_eq_true (show nI 0 ≤ u from Int32.not_lt.mp h1), decide_eq_true (Int32.not_le.mp h9)]; rfl) | (simp only [isW, decide_eq_false (Int32.not_lt.mpr h9), Bool.and_false]; rfl) | (simp only [isW, decide_eq_false (show ¬ nI 0 ≤ u from Int32.not_le.mpr h1), Bool.false_and]; rfl)) dX1_isWord_17
    · refine lv_iconst (v := (nI 1)) S.1 S.2.1 dX1_isWord_12 (by decide) ?_
      refine lv_goto (tgt := 17) S.1 S.2.1 dX1_isWord_13 (by decide) ?_
      exact rd_ret S hr hlk (rfl) (by first | (simp only [isW, decide_eq_true (show nI 0 ≤ u from Int32.not_lt.mp h1), decide_eq_true (Int32.not_le.mp h9)]; rfl) | (simp only [isW, decide_eq_false (Int32.not_lt.mpr h9), Bool.and_false]; rfl) | (simp only [isW, decide_eq_false (show ¬ nI 0 ≤ u from Int32.not_le.mpr h1), Bool.false_and]; rfl)) dX1_isWord_17

set_option maxRecDepth 100000 in
theorem kX1_signAt (l : Launch) (dC : Nat → ClassId) (dI : Nat → Nat → Nat) (cI cZ cJ : ClassId) (a : Nat → Nat) (th n mw nf : Nat) (sg fo L le sc li ba ca : Nat → Nat) (wa : Nat → Int32) (i : Nat) (hR : ivr n sg fo) (hi : i < n) : rd l yX1_signAt cX1_signAt 2 (some .int) 0 0 [.ref (a 0), .int (nI i)] (rB dC dI cI cZ cJ (vY cI cZ a th n mw nf sg fo L le sc li ba ca wa)) (nI (fsg sg fo i)) := by
  refine rd_ofW RX1 (by decide) rfl (Nat.le_of_ble_eq_true rfl) ?_
  intro p e s m below meth c S hr hlk hB ls hl
  obtain ⟨hP, hK⟩ := hB
  have hl : lv_has ls 2 [(0, .ref (a 0)), (1, .int (nI i))] := hl
  obtain ⟨hn, hsg, hfo, hv1, hv2⟩ := id hR
  refine lv_aload_n S.1 S.2.1 dX1_signAt_0 rfl (lv_at hl 0 rfl) ?_
  refine fX1_row (v := .ref (a 1)) S hK hP rfl rfl dX1_signAt_1 ?_
  refine lv_iload_n S.1 S.2.1 dX1_signAt_4 rfl (lv_at hl 1 rfl) ?_
  refine n_iald S hK hP 1 0 rfl rfl dX1_signAt_5 (j := i) (by decide) (by omega) ?_
  have b5 := hsg i
  refine lv_bipush (v := (nI 63)) S.1 S.2.1 dX1_signAt_6 (by decide) ?_
  refine n_icmp_ne (x := sg i) (y := 63) (tgt := 16) S dX1_signAt_8 (by decide) (by omega) (by omega) (fun h8 => ?_) (fun h8 => ?_)
  · refine lv_aload_n S.1 S.2.1 dX1_signAt_16 rfl (lv_at hl 0 rfl) ?_
    refine fX1_folds (v := .ref (a 2)) S hK hP rfl rfl dX1_signAt_17 ?_
    refine lv_aload_n S.1 S.2.1 dX1_signAt_20 rfl (lv_at hl 0 rfl) ?_
    refine fX1_row (v := .ref (a 1)) S hK hP rfl rfl dX1_signAt_21 ?_
    refine lv_iload_n S.1 S.2.1 dX1_signAt_24 rfl (lv_at hl 1 rfl) ?_
    refine n_iald S hK hP 1 0 rfl rfl dX1_signAt_25 (j := i) (by decide) (by omega) ?_
    have b25 := hsg i
    refine lv_bipush (v := (nI 97)) S.1 S.2.1 dX1_signAt_26 (by decide) ?_
    have h1 := hv1 i hi
    refine n_isub (x := sg i) (y := 97) S dX1_signAt_28 (by omega) ?_
    refine n_iald S hK hP 2 0 rfl rfl dX1_signAt_29 (j := (sg i) - 97) (by decide) (by omega) ?_
    have b29 := hfo ((sg i) - 97)
    exact rd_ret S hr hlk (rfl) (by first | (rw [fsg, if_pos h8]; done) | (rw [fsg, if_neg h8]; done)) dX1_signAt_30
  · refine lv_bipush (v := (nI 63)) S.1 S.2.1 dX1_signAt_11 (by decide) ?_
    refine lv_goto (tgt := 30) S.1 S.2.1 dX1_signAt_13 (by decide) ?_
    exact rd_ret S hr hlk (rfl) (by first | (rw [fsg, if_pos h8]; done) | (rw [fsg, if_neg h8]; done)) dX1_signAt_30

set_option maxRecDepth 100000 in
theorem kX1_letterAt (l : Launch) (dC : Nat → ClassId) (dI : Nat → Nat → Nat) (cI cZ cJ : ClassId) (a : Nat → Nat) (th n mw nf : Nat) (sg fo L le sc li ba ca : Nat → Nat) (wa : Nat → Int32) (w : Nat) (i : Nat) (hI : iv n mw nf sg fo L le sc li ba ca) (hw : w < 250) (hi : i < 15) : rd l yX1_letterAt cX1_letterAt 3 (some .int) 0 0 [.ref (a 0), .int (nI w), .int (nI i)] (rB dC dI cI cZ cJ (vY cI cZ a th n mw nf sg fo L le sc li ba ca wa)) (nI (L (15 * w + i))) := by
  refine rd_ofW RX1 (by decide) rfl (Nat.le_of_ble_eq_true rfl) ?_
  intro p e s m below meth c S hr hlk hB ls hl
  obtain ⟨hP, hK⟩ := hB
  have hl : lv_has ls 3 [(0, .ref (a 0)), (1, .int (nI w)), (2, .int (nI i))] := hl
  obtain ⟨⟨hn, hm, hf⟩, ⟨hsg, hfo, hL, hle, hsc, hli, hba, hca⟩, hv1, hv2, hv3, hv4, hv5, hv6, hv7⟩ := id hI
  refine lv_aload_n S.1 S.2.1 dX1_letterAt_0 rfl (lv_at hl 0 rfl) ?_
  refine fX1_letters (v := .ref (a 3)) S hK hP rfl rfl dX1_letterAt_1 ?_
  refine lv_bipush (v := (nI 15)) S.1 S.2.1 dX1_letterAt_4 (by decide) ?_
  refine lv_iload_n S.1 S.2.1 dX1_letterAt_6 rfl (lv_at hl 1 rfl) ?_
  refine n_imul (x := 15) (y := w) S dX1_letterAt_7 ?_
  refine lv_iload_n S.1 S.2.1 dX1_letterAt_8 rfl (lv_at hl 2 rfl) ?_
  refine n_iadd (x := 15 * w) (y := i) S dX1_letterAt_9 ?_
  refine n_iald S hK hP 3 0 rfl rfl dX1_letterAt_10 (j := (15 * w) + i) (by decide) (by omega) ?_
  have b10 := hL ((15 * w) + i)
  exact rd_ret S hr hlk (rfl) (rfl) dX1_letterAt_11

set_option maxRecDepth 100000 in
theorem lX1_hasBlank_2 (l : Launch) (dC : Nat → ClassId) (dI : Nat → Nat → Nat) (cI cZ cJ : ClassId) (a : Nat → Nat) (th n mw nf : Nat) (sg fo L le sc li ba ca : Nat → Nat) (wa : Nat → Int32) (hI : iv n mw nf sg fo L le sc li ba ca)  {p : Program} {e : Env} {s : State} {m : MethodId} {below : List Frame} {meth : Method} {c : Code} (S : CallFix p m c cX1_hasBlank 2 s ([.ref (a 0)] : List Value).toArray tbG RX1) (hr : meth.sig.returnType = (some .boolean)) (hlk : meth.locks = false) (hK : va_K (dC, dI) vcl (vty cI cZ cJ) s) (hP : va_P (dC, dI) vcl (vY cI cZ a th n mw nf sg fo L le sc li ba ca wa) s.heap) :
    ∀ (fuel : Nat) (i : Nat), n - i < fuel → i ≤ n → (∀ j, j < i → sg j ≠ 63) → ∀ ls : Array Slot, lv_has ls 2 [(0, .ref (a 0)), (1, .int (nI i))] → W p l e ({ frames := 0, cells := 0, slots := 0, locals := 0 } : Room) s m ([.ref (a 0)] : List Value).toArray below meth c s.heap [] 0 0 (MQ below (QcRead (nI (hbl n sg).toNat)) [.ref (a 0)].toArray s 0 0 (fun _ => False)) (F0 m 2 ls []) := by
  obtain ⟨⟨hn, hm, hf⟩, ⟨hsg, hfo, hL, hle, hsc, hli, hba, hca⟩, hv1, hv2, hv3, hv4, hv5, hv6, hv7⟩ := id hI
  intro fuel
  induction fuel with
  | zero =>
    intro i hq
    exact absurd hq (Nat.not_lt_zero _)
  | succ fuel ih =>
    intro i hq hi hq1 ls hl
    refine lv_iload_n S.1 S.2.1 dX1_hasBlank_2 rfl (lv_at hl 1 rfl) ?_
    refine lv_aload_n S.1 S.2.1 dX1_hasBlank_3 rfl (lv_at hl 0 rfl) ?_
    refine fX1_size (v := .int (nI n)) S hK hP rfl rfl dX1_hasBlank_4 ?_
    refine n_icmp_ge (x := i) (y := n) (tgt := 29) S dX1_hasBlank_7 (by decide) (by omega) (by omega) (fun h7 => ?_) (fun h7 => ?_)
    · refine lv_iconst (v := (nI 0)) S.1 S.2.1 dX1_hasBlank_29 (by decide) ?_
      exact rd_ret S hr hlk (rfl) (by rw [hbl, decide_eq_false (fun ⟨j, a, b⟩ => hq1 j (by omega) b)]; rfl) dX1_hasBlank_30
    · refine lv_aload_n S.1 S.2.1 dX1_hasBlank_10 rfl (lv_at hl 0 rfl) ?_
      refine fX1_row (v := .ref (a 1)) S hK hP rfl rfl dX1_hasBlank_11 ?_
      refine lv_iload_n S.1 S.2.1 dX1_hasBlank_14 rfl (lv_at hl 1 rfl) ?_
      refine n_iald S hK hP 1 0 rfl rfl dX1_hasBlank_15 (j := i) (by decide) (by omega) ?_
      have b15 := hsg i
      refine lv_bipush (v := (nI 63)) S.1 S.2.1 dX1_hasBlank_16 (by decide) ?_
      refine n_icmp_ne (x := sg i) (y := 63) (tgt := 23) S dX1_hasBlank_18 (by decide) (by omega) (by omega) (fun h18 => ?_) (fun h18 => ?_)
      · refine n_iinc (lv' := [(1, .int (nI (i + 1))), (0, .ref (a 0))]) (x := i) (k := 1) S dX1_hasBlank_23 hl rfl (by decide) rfl (fun ls hl => ?_)
        refine lv_goto (tgt := 2) S.1 S.2.1 dX1_hasBlank_26 (by decide) ?_
        exact ih (i + 1) (by omega) (by omega) (lt_s hq1 h18) ls (lv_sub hl [1, 0] rfl)
      · refine lv_iconst (v := (nI 1)) S.1 S.2.1 dX1_hasBlank_21 (by decide) ?_
        exact rd_ret S hr hlk (rfl) (by rw [hbl, decide_eq_true ⟨i, by omega, h18⟩]; rfl) dX1_hasBlank_22
set_option maxRecDepth 100000 in
theorem kX1_hasBlank (l : Launch) (dC : Nat → ClassId) (dI : Nat → Nat → Nat) (cI cZ cJ : ClassId) (a : Nat → Nat) (th n mw nf : Nat) (sg fo L le sc li ba ca : Nat → Nat) (wa : Nat → Int32) (hI : iv n mw nf sg fo L le sc li ba ca) : rd l yX1_hasBlank cX1_hasBlank 2 (some .boolean) 0 0 [.ref (a 0)] (rB dC dI cI cZ cJ (vY cI cZ a th n mw nf sg fo L le sc li ba ca wa)) (nI (hbl n sg).toNat) := by
  refine rd_ofW RX1 (by decide) rfl (Nat.le_of_ble_eq_true rfl) ?_
  intro p e s m below meth c S hr hlk hB ls hl
  obtain ⟨hP, hK⟩ := hB
  have hl : lv_has ls 2 [(0, .ref (a 0))] := hl
  obtain ⟨⟨hn, hm, hf⟩, ⟨hsg, hfo, hL, hle, hsc, hli, hba, hca⟩, hv1, hv2, hv3, hv4, hv5, hv6, hv7⟩ := id hI
  refine lv_iconst (v := (nI 0)) S.1 S.2.1 dX1_hasBlank_0 (by decide) ?_
  refine lv_istore_n (lv' := [(1, .int (nI 0)), (0, .ref (a 0))]) S.1 S.2.1 dX1_hasBlank_1 rfl hl (by decide) rfl (fun ls hl => ?_)
  exact lX1_hasBlank_2 l dC dI cI cZ cJ a th n mw nf sg fo L le sc li ba ca wa hI S hr hlk hK hP _ 0 (Nat.lt_succ_self _) (by omega) (fun j hj => absurd hj (Nat.not_lt_zero j)) ls (lv_sub hl [1, 0] rfl)

set_option maxRecDepth 100000 in
theorem lX1_isAt_2 (l : Launch) (dC : Nat → ClassId) (dI : Nat → Nat → Nat) (cI cZ cJ : ClassId) (a : Nat → Nat) (th n mw nf : Nat) (sg fo L le sc li ba ca : Nat → Nat) (wa : Nat → Int32) (w : Nat) (f : Nat) (hI : iv n mw nf sg fo L le sc li ba ca) (hw : w < 250) (hf0 : f + n ≤ 15)  {p : Program} {e : Env} {s : State} {m : MethodId} {below : List Frame} {meth : Method} {c : Code} (S : CallFix p m c cX1_isAt 4 s ([.ref (a 0), .int (nI w), .int (nI f)] : List Value).toArray tbG RX1) (hr : meth.sig.returnType = (some .boolean)) (hlk : meth.locks = false) (hK : va_K (dC, dI) vcl (vty cI cZ cJ) s) (hP : va_P (dC, dI) vcl (vY cI cZ a th n mw nf sg fo L le sc li ba ca wa) s.heap) :
    ∀ (fuel : Nat) (i : Nat), n - i < fuel → i ≤ n → (∀ j, j < i → fsg sg fo j = 63 ∨ fsg sg fo j = L (15 * w + (f + j))) → ∀ ls : Array Slot, lv_has ls 4 [(0, .ref (a 0)), (1, .int (nI w)), (2, .int (nI f)), (3, .int (nI i))] → W p l e ({ frames := 1, cells := 0, slots := 0, locals := 22 } : Room) s m ([.ref (a 0), .int (nI w), .int (nI f)] : List Value).toArray below meth c s.heap [] 0 0 (MQ below (QcRead (nI (mat n sg fo L w f).toNat)) [.ref (a 0), .int (nI w), .int (nI f)].toArray s 0 0 (fun _ => False)) (F0 m 2 ls []) := by
  obtain ⟨⟨hn, hm, hf⟩, ⟨hsg, hfo, hL, hle, hsc, hli, hba, hca⟩, hv1, hv2, hv3, hv4, hv5, hv6, hv7⟩ := id hI
  intro fuel
  induction fuel with
  | zero =>
    intro i hq
    exact absurd hq (Nat.not_lt_zero _)
  | succ fuel ih =>
    intro i hq hi hq1 ls hl
    refine lv_iload_n S.1 S.2.1 dX1_isAt_2 rfl (lv_at hl 3 rfl) ?_
    refine lv_aload_n S.1 S.2.1 dX1_isAt_3 rfl (lv_at hl 0 rfl) ?_
    refine fX1_size (v := .int (nI n)) S hK hP rfl rfl dX1_isAt_4 ?_
    refine n_icmp_ge (x := i) (y := n) (tgt := 44) S dX1_isAt_7 (by decide) (by omega) (by omega) (fun h7 => ?_) (fun h7 => ?_)
    · refine lv_iconst (v := (nI 1)) S.1 S.2.1 dX1_isAt_44 (by decide) ?_
      exact rd_ret S hr hlk (rfl) (by rw [mat, decide_eq_true (fun j hj => hq1 j (by omega))]; rfl) dX1_isAt_45
    · refine lv_aload_n S.1 S.2.1 dX1_isAt_10 rfl (lv_at hl 0 rfl) ?_
      refine lv_iload_n S.1 S.2.1 dX1_isAt_11 rfl (lv_at hl 3 rfl) ?_
      refine rd_callV (C := RX1) (As := [.int (nI i)]) (rest := []) S (kX1_signAt l dC dI cI cZ cJ a th n mw nf sg fo L le sc li ba ca wa i (iv_r hI) (by omega)) rB_blind (fun U hU hW => ⟨by rw [hU]; exact hP, va_K.moved hW.alike hK⟩) (va_recv hK hP (ci := 1) (q0 := 0) rfl rfl) gX1_56 hdX1_signAt (by decide) hl.1 rfl (Nat.le_of_ble_eq_true rfl) dX1_isAt_12 ⟨Nat.zero_le _, Nat.zero_le _⟩ ?_
      have b12 := fsg_le hI i
      refine lv_bipush (v := (nI 63)) S.1 S.2.1 dX1_isAt_15 (by decide) ?_
      refine n_icmp_eq (x := fsg sg fo i) (y := 63) (tgt := 38) S dX1_isAt_17 (by decide) (by omega) (by omega) (fun h17 => ?_) (fun h17 => ?_)
      · refine n_iinc (lv' := [(3, .int (nI (i + 1))), (0, .ref (a 0)), (1, .int (nI w)), (2, .int (nI f))]) (x := i) (k := 3) S dX1_isAt_38 hl rfl (by decide) rfl (fun ls hl => ?_)
        refine lv_goto (tgt := 2) S.1 S.2.1 dX1_isAt_41 (by decide) ?_
        exact ih (i + 1) (by omega) (by omega) (lt_s hq1 (by omega)) ls (lv_sub hl [1, 2, 3, 0] rfl)
      · refine lv_aload_n S.1 S.2.1 dX1_isAt_20 rfl (lv_at hl 0 rfl) ?_
        refine lv_iload_n S.1 S.2.1 dX1_isAt_21 rfl (lv_at hl 3 rfl) ?_
        refine rd_callV (C := RX1) (As := [.int (nI i)]) (rest := []) S (kX1_signAt l dC dI cI cZ cJ a th n mw nf sg fo L le sc li ba ca wa i (iv_r hI) (by omega)) rB_blind (fun U hU hW => ⟨by rw [hU]; exact hP, va_K.moved hW.alike hK⟩) (va_recv hK hP (ci := 1) (q0 := 0) rfl rfl) gX1_56 hdX1_signAt (by decide) hl.1 rfl (Nat.le_of_ble_eq_true rfl) dX1_isAt_22 ⟨Nat.zero_le _, Nat.zero_le _⟩ ?_
        refine lv_aload_n S.1 S.2.1 dX1_isAt_25 rfl (lv_at hl 0 rfl) ?_
        refine lv_iload_n S.1 S.2.1 dX1_isAt_26 rfl (lv_at hl 1 rfl) ?_
        refine lv_iload_n S.1 S.2.1 dX1_isAt_27 rfl (lv_at hl 2 rfl) ?_
        refine lv_iload_n S.1 S.2.1 dX1_isAt_28 rfl (lv_at hl 3 rfl) ?_
        refine n_iadd (x := f) (y := i) S dX1_isAt_29 ?_
        refine rd_callV (C := RX1) (As := [.int (nI w), .int (nI (f + i))]) (rest := [.int (nI (fsg sg fo i))]) S (kX1_letterAt l dC dI cI cZ cJ a th n mw nf sg fo L le sc li ba ca wa w (f + i) hI (by omega) (by omega)) rB_blind (fun U hU hW => ⟨by rw [hU]; exact hP, va_K.moved hW.alike hK⟩) (va_recv hK hP (ci := 1) (q0 := 0) rfl rfl) gX1_60 hdX1_letterAt (by decide) hl.1 rfl (Nat.le_of_ble_eq_true rfl) dX1_isAt_30 ⟨Nat.zero_le _, Nat.zero_le _⟩ ?_
        have b30 := hL (15 * w + (f + i))
        refine n_icmp_eq (x := fsg sg fo i) (y := L (15 * w + (f + i))) (tgt := 38) S dX1_isAt_33 (by decide) (by omega) (by omega) (fun h33 => ?_) (fun h33 => ?_)
        · refine n_iinc (lv' := [(3, .int (nI (i + 1))), (0, .ref (a 0)), (1, .int (nI w)), (2, .int (nI f))]) (x := i) (k := 3) S dX1_isAt_38 hl rfl (by decide) rfl (fun ls hl => ?_)
          refine lv_goto (tgt := 2) S.1 S.2.1 dX1_isAt_41 (by decide) ?_
          exact ih (i + 1) (by omega) (by omega) (lt_s hq1 (by omega)) ls (lv_sub hl [1, 2, 3, 0] rfl)
        · refine lv_iconst (v := (nI 0)) S.1 S.2.1 dX1_isAt_36 (by decide) ?_
          exact rd_ret S hr hlk (rfl) (by rw [mat, decide_eq_false (fun q => by have := q i (by omega); omega)]; rfl) dX1_isAt_37
set_option maxRecDepth 100000 in
theorem kX1_isAt (l : Launch) (dC : Nat → ClassId) (dI : Nat → Nat → Nat) (cI cZ cJ : ClassId) (a : Nat → Nat) (th n mw nf : Nat) (sg fo L le sc li ba ca : Nat → Nat) (wa : Nat → Int32) (w : Nat) (f : Nat) (hI : iv n mw nf sg fo L le sc li ba ca) (hw : w < 250) (hf0 : f + n ≤ 15) : rd l yX1_isAt cX1_isAt 4 (some .boolean) 1 22 [.ref (a 0), .int (nI w), .int (nI f)] (rB dC dI cI cZ cJ (vY cI cZ a th n mw nf sg fo L le sc li ba ca wa)) (nI (mat n sg fo L w f).toNat) := by
  refine rd_ofW RX1 (by decide) rfl (Nat.le_of_ble_eq_true rfl) ?_
  intro p e s m below meth c S hr hlk hB ls hl
  obtain ⟨hP, hK⟩ := hB
  have hl : lv_has ls 4 [(0, .ref (a 0)), (1, .int (nI w)), (2, .int (nI f))] := hl
  obtain ⟨⟨hn, hm, hf⟩, ⟨hsg, hfo, hL, hle, hsc, hli, hba, hca⟩, hv1, hv2, hv3, hv4, hv5, hv6, hv7⟩ := id hI
  refine lv_iconst (v := (nI 0)) S.1 S.2.1 dX1_isAt_0 (by decide) ?_
  refine lv_istore_n (lv' := [(3, .int (nI 0)), (0, .ref (a 0)), (1, .int (nI w)), (2, .int (nI f))]) S.1 S.2.1 dX1_isAt_1 rfl hl (by decide) rfl (fun ls hl => ?_)
  exact lX1_isAt_2 l dC dI cI cZ cJ a th n mw nf sg fo L le sc li ba ca wa w f hI hw hf0 S hr hlk hK hP _ 0 (Nat.lt_succ_self _) (by omega) (fun j hj => absurd hj (Nat.not_lt_zero j)) ls (lv_sub hl [1, 2, 3, 0] rfl)

set_option maxRecDepth 100000 in
theorem kX1_fits (l : Launch) (dC : Nat → ClassId) (dI : Nat → Nat → Nat) (cI cZ cJ : ClassId) (a : Nat → Nat) (th n mw nf : Nat) (sg fo L le sc li ba ca : Nat → Nat) (wa : Nat → Int32) (w : Nat) (hI : iv n mw nf sg fo L le sc li ba ca) (hw : w < 250) : rd l yX1_fits cX1_fits 2 (some .boolean) 2 45 [.ref (a 0), .int (nI w)] (rB dC dI cI cZ cJ (vY cI cZ a th n mw nf sg fo L le sc li ba ca wa)) (nI (fit n sg fo L le w).toNat) := by
  refine rd_ofW RX1 (by decide) rfl (Nat.le_of_ble_eq_true rfl) ?_
  intro p e s m below meth c S hr hlk hB ls hl
  obtain ⟨hP, hK⟩ := hB
  have hl : lv_has ls 2 [(0, .ref (a 0)), (1, .int (nI w))] := hl
  obtain ⟨⟨hn, hm, hf⟩, ⟨hsg, hfo, hL, hle, hsc, hli, hba, hca⟩, hv1, hv2, hv3, hv4, hv5, hv6, hv7⟩ := id hI
  refine lv_aload_n S.1 S.2.1 dX1_fits_0 rfl (lv_at hl 0 rfl) ?_
  refine fX1_lengths (v := .ref (a 4)) S hK hP rfl rfl dX1_fits_1 ?_
  refine lv_iload_n S.1 S.2.1 dX1_fits_4 rfl (lv_at hl 1 rfl) ?_
  refine n_iald S hK hP 4 0 rfl rfl dX1_fits_5 (j := w) (by decide) (by omega) ?_
  have b5 := hle w
  refine lv_aload_n S.1 S.2.1 dX1_fits_6 rfl (lv_at hl 0 rfl) ?_
  refine fX1_size (v := .int (nI n)) S hK hP rfl rfl dX1_fits_7 ?_
  refine n_icmp_ne (x := le w) (y := n) (tgt := 26) S dX1_fits_10 (by decide) (by omega) (by omega) (fun h10 => ?_) (fun h10 => ?_)
  · refine lv_iconst (v := (nI 0)) S.1 S.2.1 dX1_fits_26 (by decide) ?_
    exact rd_ret S hr hlk (rfl) (by first | simp [fit, h10, h19] | simp [fit, h10]) dX1_fits_27
  · refine lv_aload_n S.1 S.2.1 dX1_fits_13 rfl (lv_at hl 0 rfl) ?_
    refine lv_iload_n S.1 S.2.1 dX1_fits_14 rfl (lv_at hl 1 rfl) ?_
    refine lv_iconst (v := (nI 0)) S.1 S.2.1 dX1_fits_15 (by decide) ?_
    refine rd_callV (C := RX1) (As := [.int (nI w), .int (nI 0)]) (rest := []) S (kX1_isAt l dC dI cI cZ cJ a th n mw nf sg fo L le sc li ba ca wa w 0 hI (by omega) (by omega)) rB_blind (fun U hU hW => ⟨by rw [hU]; exact hP, va_K.moved hW.alike hK⟩) (va_recv hK hP (ci := 1) (q0 := 0) rfl rfl) gX1_64 hdX1_isAt (by decide) hl.1 rfl (Nat.le_of_ble_eq_true rfl) dX1_fits_16 ⟨Nat.zero_le _, Nat.zero_le _⟩ ?_
    refine n_bif_eq (b := mat n sg fo L w 0) (tgt := 26) S dX1_fits_19 (by decide) (fun h19 => ?_) (fun h19 => ?_)
    · refine lv_iconst (v := (nI 0)) S.1 S.2.1 dX1_fits_26 (by decide) ?_
      exact rd_ret S hr hlk (rfl) (by first | simp [fit, h10, h19] | simp [fit, h10]) dX1_fits_27
    · refine lv_iconst (v := (nI 1)) S.1 S.2.1 dX1_fits_22 (by decide) ?_
      refine lv_goto (tgt := 27) S.1 S.2.1 dX1_fits_23 (by decide) ?_
      exact rd_ret S hr hlk (rfl) (by first | simp [fit, h10, h19] | simp [fit, h10]) dX1_fits_27

set_option maxRecDepth 100000 in
theorem kX1_isIn (l : Launch) (dC : Nat → ClassId) (dI : Nat → Nat → Nat) (cI cZ cJ : ClassId) (a : Nat → Nat) (th n mw nf : Nat) (sg fo L le sc li ba ca : Nat → Nat) (wa : Nat → Int32) (w : Nat) (t : Nat) (hI : iv n mw nf sg fo L le sc li ba ca) (hw : w < 250) (ht : t < 4) : rd l yX1_isIn cX1_isIn 3 (some .boolean) 0 0 [.ref (a 0), .int (nI w), .int (nI t)] (rB dC dI cI cZ cJ (vY cI cZ a th n mw nf sg fo L le sc li ba ca wa)) (nI (inl li w t).toNat) := by
  refine rd_ofW RX1 (by decide) rfl (Nat.le_of_ble_eq_true rfl) ?_
  intro p e s m below meth c S hr hlk hB ls hl
  obtain ⟨hP, hK⟩ := hB
  have hl : lv_has ls 3 [(0, .ref (a 0)), (1, .int (nI w)), (2, .int (nI t))] := hl
  obtain ⟨⟨hn, hm, hf⟩, ⟨hsg, hfo, hL, hle, hsc, hli, hba, hca⟩, hv1, hv2, hv3, hv4, hv5, hv6, hv7⟩ := id hI
  refine lv_aload_n S.1 S.2.1 dX1_isIn_0 rfl (lv_at hl 0 rfl) ?_
  refine fX1_lists (v := .ref (a 6)) S hK hP rfl rfl dX1_isIn_1 ?_
  refine lv_iload_n S.1 S.2.1 dX1_isIn_4 rfl (lv_at hl 1 rfl) ?_
  refine n_iald S hK hP 6 0 rfl rfl dX1_isIn_5 (j := w) (by decide) (by omega) ?_
  have b5 := hli w
  refine lv_iload_n S.1 S.2.1 dX1_isIn_6 rfl (lv_at hl 2 rfl) ?_
  refine lv_ishr S.1 S.2.1 dX1_isIn_7 ?_
  refine lv_iconst (v := (nI 1)) S.1 S.2.1 dX1_isIn_8 (by decide) ?_
  refine lv_iand S.1 S.2.1 dX1_isIn_9 ?_
  refine lv_iconst (v := (nI 1)) S.1 S.2.1 dX1_isIn_10 (by decide) ?_
  have hb : nI (li w) >>> (nI t &&& 31) &&& nI 1 = nI ((li w).testBit t).toNat := (tb_lt (li w) (by omega) t ht).2.1
  rw [hb]
  refine n_icmp_ne (x := ((li w).testBit t).toNat) (y := 1) (tgt := 18) S dX1_isIn_11 (by decide) (by cases (li w).testBit t <;> decide) (by omega) (fun h11 => ?_) (fun h11 => ?_)
  · refine lv_iconst (v := (nI 0)) S.1 S.2.1 dX1_isIn_18 (by decide) ?_
    exact rd_ret S hr hlk (rfl) (by cases hc : (li w).testBit t <;> rw [hc] at h11 <;> first | exact absurd h11 (by decide) | (rw [inl, hc]; rfl)) dX1_isIn_19
  · refine lv_iconst (v := (nI 1)) S.1 S.2.1 dX1_isIn_14 (by decide) ?_
    refine lv_goto (tgt := 19) S.1 S.2.1 dX1_isIn_15 (by decide) ?_
    exact rd_ret S hr hlk (rfl) (by cases hc : (li w).testBit t <;> rw [hc] at h11 <;> first | exact absurd h11 (by decide) | (rw [inl, hc]; rfl)) dX1_isIn_19

set_option maxRecDepth 100000 in
theorem lX1_isAhead_38 (l : Launch) (dC : Nat → ClassId) (dI : Nat → Nat → Nat) (cI cZ cJ : ClassId) (a : Nat → Nat) (th n mw nf : Nat) (sg fo L le sc li ba ca : Nat → Nat) (wa : Nat → Int32) (w : Nat) (v : Nat) (hI : iv n mw nf sg fo L le sc li ba ca) (hw : w < 250) (hvv : v < 250)  {p : Program} {e : Env} {s : State} {m : MethodId} {below : List Frame} {meth : Method} {c : Code} (S : CallFix p m c cX1_isAhead 4 s ([.ref (a 0), .int (nI w), .int (nI v)] : List Value).toArray tbG RX1) (hr : meth.sig.returnType = (some .boolean)) (hlk : meth.locks = false) (hK : va_K (dC, dI) vcl (vty cI cZ cJ) s) (hP : va_P (dC, dI) vcl (vY cI cZ a th n mw nf sg fo L le sc li ba ca wa) s.heap) :
    ∀ (fuel : Nat) (i : Nat), 15 - i < fuel → sc w = sc v → i ≤ 15 → (∀ j, j < i → L (15 * w + j) = L (15 * v + j)) → ∀ ls : Array Slot, lv_has ls 4 [(0, .ref (a 0)), (1, .int (nI w)), (2, .int (nI v)), (3, .int (nI i))] → W p l e ({ frames := 1, cells := 0, slots := 0, locals := 22 } : Room) s m ([.ref (a 0), .int (nI w), .int (nI v)] : List Value).toArray below meth c s.heap [] 0 0 (MQ below (QcRead (nI (ahd L sc w v).toNat)) [.ref (a 0), .int (nI w), .int (nI v)].toArray s 0 0 (fun _ => False)) (F0 m 38 ls []) := by
  obtain ⟨⟨hn, hm, hf⟩, ⟨hsg, hfo, hL, hle, hsc, hli, hba, hca⟩, hv1, hv2, hv3, hv4, hv5, hv6, hv7⟩ := id hI
  intro fuel
  induction fuel with
  | zero =>
    intro i hq
    exact absurd hq (Nat.not_lt_zero _)
  | succ fuel ih =>
    intro i hq h12 hi hq1 ls hl
    refine lv_iload_n S.1 S.2.1 dX1_isAhead_38 rfl (lv_at hl 3 rfl) ?_
    refine lv_bipush (v := (nI 15)) S.1 S.2.1 dX1_isAhead_39 (by decide) ?_
    refine n_icmp_ge (x := i) (y := 15) (tgt := 86) S dX1_isAhead_41 (by decide) (by omega) (by omega) (fun h41 => ?_) (fun h41 => ?_)
    · refine lv_iconst (v := (nI 0)) S.1 S.2.1 dX1_isAhead_86 (by decide) ?_
      exact rd_ret S hr hlk (rfl) (by rw [ahd, if_pos h12, lcp_at (i := i) (by omega) hq1 (Or.inl (by omega)), decide_eq_false (show ¬ i < 15 by omega)]; rfl) dX1_isAhead_87
    · refine lv_aload_n S.1 S.2.1 dX1_isAhead_44 rfl (lv_at hl 0 rfl) ?_
      refine lv_iload_n S.1 S.2.1 dX1_isAhead_45 rfl (lv_at hl 1 rfl) ?_
      refine lv_iload_n S.1 S.2.1 dX1_isAhead_46 rfl (lv_at hl 3 rfl) ?_
      refine rd_callV (C := RX1) (As := [.int (nI w), .int (nI i)]) (rest := []) S (kX1_letterAt l dC dI cI cZ cJ a th n mw nf sg fo L le sc li ba ca wa w i hI (by omega) (by omega)) rB_blind (fun U hU hW => ⟨by rw [hU]; exact hP, va_K.moved hW.alike hK⟩) (va_recv hK hP (ci := 1) (q0 := 0) rfl rfl) gX1_60 hdX1_letterAt (by decide) hl.1 rfl (Nat.le_of_ble_eq_true rfl) dX1_isAhead_47 ⟨Nat.zero_le _, Nat.zero_le _⟩ ?_
      have b47 := hL (15 * w + i)
      refine lv_aload_n S.1 S.2.1 dX1_isAhead_50 rfl (lv_at hl 0 rfl) ?_
      refine lv_iload_n S.1 S.2.1 dX1_isAhead_51 rfl (lv_at hl 2 rfl) ?_
      refine lv_iload_n S.1 S.2.1 dX1_isAhead_52 rfl (lv_at hl 3 rfl) ?_
      refine rd_callV (C := RX1) (As := [.int (nI v), .int (nI i)]) (rest := [.int (nI (L (15 * w + i)))]) S (kX1_letterAt l dC dI cI cZ cJ a th n mw nf sg fo L le sc li ba ca wa v i hI hvv (by omega)) rB_blind (fun U hU hW => ⟨by rw [hU]; exact hP, va_K.moved hW.alike hK⟩) (va_recv hK hP (ci := 1) (q0 := 0) rfl rfl) gX1_60 hdX1_letterAt (by decide) hl.1 rfl (Nat.le_of_ble_eq_true rfl) dX1_isAhead_53 ⟨Nat.zero_le _, Nat.zero_le _⟩ ?_
      have b53 := hL (15 * v + i)
      refine n_icmp_eq (x := L (15 * w + i)) (y := L (15 * v + i)) (tgt := 80) S dX1_isAhead_56 (by decide) (by omega) (by omega) (fun h56 => ?_) (fun h56 => ?_)
      · refine n_iinc (lv' := [(3, .int (nI (i + 1))), (0, .ref (a 0)), (1, .int (nI w)), (2, .int (nI v))]) (x := i) (k := 3) S dX1_isAhead_80 hl rfl (by decide) rfl (fun ls hl => ?_)
        refine lv_goto (tgt := 38) S.1 S.2.1 dX1_isAhead_83 (by decide) ?_
        exact ih (i + 1) (by omega) h12 (by omega) (lt_s hq1 h56) ls (lv_sub hl [1, 2, 3, 0] rfl)
      · refine lv_aload_n S.1 S.2.1 dX1_isAhead_59 rfl (lv_at hl 0 rfl) ?_
        refine lv_iload_n S.1 S.2.1 dX1_isAhead_60 rfl (lv_at hl 1 rfl) ?_
        refine lv_iload_n S.1 S.2.1 dX1_isAhead_61 rfl (lv_at hl 3 rfl) ?_
        refine rd_callV (C := RX1) (As := [.int (nI w), .int (nI i)]) (rest := []) S (kX1_letterAt l dC dI cI cZ cJ a th n mw nf sg fo L le sc li ba ca wa w i hI (by omega) (by omega)) rB_blind (fun U hU hW => ⟨by rw [hU]; exact hP, va_K.moved hW.alike hK⟩) (va_recv hK hP (ci := 1) (q0 := 0) rfl rfl) gX1_60 hdX1_letterAt (by decide) hl.1 rfl (Nat.le_of_ble_eq_true rfl) dX1_isAhead_62 ⟨Nat.zero_le _, Nat.zero_le _⟩ ?_
        refine lv_aload_n S.1 S.2.1 dX1_isAhead_65 rfl (lv_at hl 0 rfl) ?_
        refine lv_iload_n S.1 S.2.1 dX1_isAhead_66 rfl (lv_at hl 2 rfl) ?_
        refine lv_iload_n S.1 S.2.1 dX1_isAhead_67 rfl (lv_at hl 3 rfl) ?_
        refine rd_callV (C := RX1) (As := [.int (nI v), .int (nI i)]) (rest := [.int (nI (L (15 * w + i)))]) S (kX1_letterAt l dC dI cI cZ cJ a th n mw nf sg fo L le sc li ba ca wa v i hI hvv (by omega)) rB_blind (fun U hU hW => ⟨by rw [hU]; exact hP, va_K.moved hW.alike hK⟩) (va_recv hK hP (ci := 1) (q0 := 0) rfl rfl) gX1_60 hdX1_letterAt (by decide) hl.1 rfl (Nat.le_of_ble_eq_true rfl) dX1_isAhead_68 ⟨Nat.zero_le _, Nat.zero_le _⟩ ?_
        refine n_icmp_ge (x := L (15 * w + i)) (y := L (15 * v + i)) (tgt := 78) S dX1_isAhead_71 (by decide) (by omega) (by omega) (fun h71 => ?_) (fun h71 => ?_)
        · refine lv_iconst (v := (nI 0)) S.1 S.2.1 dX1_isAhead_78 (by decide) ?_
          exact rd_ret S hr hlk (rfl) (by rw [ahd, if_pos h12, lcp_at (by omega) hq1 (Or.inr h56), decide_eq_true (show i < 15 by omega)]; first | (rw [decide_eq_true h71]; rfl) | (rw [decide_eq_false (Nat.not_lt.mpr h71)]; rfl)) dX1_isAhead_79
        · refine lv_iconst (v := (nI 1)) S.1 S.2.1 dX1_isAhead_74 (by decide) ?_
          refine lv_goto (tgt := 79) S.1 S.2.1 dX1_isAhead_75 (by decide) ?_
          exact rd_ret S hr hlk (rfl) (by rw [ahd, if_pos h12, lcp_at (by omega) hq1 (Or.inr h56), decide_eq_true (show i < 15 by omega)]; first | (rw [decide_eq_true h71]; rfl) | (rw [decide_eq_false (Nat.not_lt.mpr h71)]; rfl)) dX1_isAhead_79
set_option maxRecDepth 100000 in
theorem kX1_isAhead (l : Launch) (dC : Nat → ClassId) (dI : Nat → Nat → Nat) (cI cZ cJ : ClassId) (a : Nat → Nat) (th n mw nf : Nat) (sg fo L le sc li ba ca : Nat → Nat) (wa : Nat → Int32) (w : Nat) (v : Nat) (hI : iv n mw nf sg fo L le sc li ba ca) (hw : w < 250) (hvv : v < 250) : rd l yX1_isAhead cX1_isAhead 4 (some .boolean) 1 22 [.ref (a 0), .int (nI w), .int (nI v)] (rB dC dI cI cZ cJ (vY cI cZ a th n mw nf sg fo L le sc li ba ca wa)) (nI (ahd L sc w v).toNat) := by
  refine rd_ofW RX1 (by decide) rfl (Nat.le_of_ble_eq_true rfl) ?_
  intro p e s m below meth c S hr hlk hB ls hl
  obtain ⟨hP, hK⟩ := hB
  have hl : lv_has ls 4 [(0, .ref (a 0)), (1, .int (nI w)), (2, .int (nI v))] := hl
  obtain ⟨⟨hn, hm, hf⟩, ⟨hsg, hfo, hL, hle, hsc, hli, hba, hca⟩, hv1, hv2, hv3, hv4, hv5, hv6, hv7⟩ := id hI
  refine lv_aload_n S.1 S.2.1 dX1_isAhead_0 rfl (lv_at hl 0 rfl) ?_
  refine fX1_scores (v := .ref (a 5)) S hK hP rfl rfl dX1_isAhead_1 ?_
  refine lv_iload_n S.1 S.2.1 dX1_isAhead_4 rfl (lv_at hl 1 rfl) ?_
  refine n_iald S hK hP 5 0 rfl rfl dX1_isAhead_5 (j := w) (by decide) (by omega) ?_
  have b5 := hsc w
  refine lv_aload_n S.1 S.2.1 dX1_isAhead_6 rfl (lv_at hl 0 rfl) ?_
  refine fX1_scores (v := .ref (a 5)) S hK hP rfl rfl dX1_isAhead_7 ?_
  refine lv_iload_n S.1 S.2.1 dX1_isAhead_10 rfl (lv_at hl 2 rfl) ?_
  refine n_iald S hK hP 5 0 rfl rfl dX1_isAhead_11 (j := v) (by decide) (by omega) ?_
  have b11 := hsc v
  refine n_icmp_eq (x := sc w) (y := sc v) (tgt := 36) S dX1_isAhead_12 (by decide) (by omega) (by omega) (fun h12 => ?_) (fun h12 => ?_)
  · refine lv_iconst (v := (nI 0)) S.1 S.2.1 dX1_isAhead_36 (by decide) ?_
    refine lv_istore_n (lv' := [(3, .int (nI 0)), (0, .ref (a 0)), (1, .int (nI w)), (2, .int (nI v))]) S.1 S.2.1 dX1_isAhead_37 rfl hl (by decide) rfl (fun ls hl => ?_)
    exact lX1_isAhead_38 l dC dI cI cZ cJ a th n mw nf sg fo L le sc li ba ca wa w v hI hw hvv S hr hlk hK hP _ 0 (Nat.lt_succ_self _) h12 (by omega) (fun j hj => absurd hj (Nat.not_lt_zero j)) ls (lv_sub hl [1, 2, 3, 0] rfl)
  · refine lv_aload_n S.1 S.2.1 dX1_isAhead_15 rfl (lv_at hl 0 rfl) ?_
    refine fX1_scores (v := .ref (a 5)) S hK hP rfl rfl dX1_isAhead_16 ?_
    refine lv_iload_n S.1 S.2.1 dX1_isAhead_19 rfl (lv_at hl 1 rfl) ?_
    refine n_iald S hK hP 5 0 rfl rfl dX1_isAhead_20 (j := w) (by decide) (by omega) ?_
    have b20 := hsc w
    refine lv_aload_n S.1 S.2.1 dX1_isAhead_21 rfl (lv_at hl 0 rfl) ?_
    refine fX1_scores (v := .ref (a 5)) S hK hP rfl rfl dX1_isAhead_22 ?_
    refine lv_iload_n S.1 S.2.1 dX1_isAhead_25 rfl (lv_at hl 2 rfl) ?_
    refine n_iald S hK hP 5 0 rfl rfl dX1_isAhead_26 (j := v) (by decide) (by omega) ?_
    have b26 := hsc v
    refine n_icmp_le (x := sc w) (y := sc v) (tgt := 34) S dX1_isAhead_27 (by decide) (by omega) (by omega) (fun h27 => ?_) (fun h27 => ?_)
    · refine lv_iconst (v := (nI 0)) S.1 S.2.1 dX1_isAhead_34 (by decide) ?_
      exact rd_ret S hr hlk (rfl) (by first | (rw [ahd, if_neg h12, decide_eq_true (by omega)]; rfl) | (rw [ahd, if_neg h12, decide_eq_false (by omega)]; rfl)) dX1_isAhead_35
    · refine lv_iconst (v := (nI 1)) S.1 S.2.1 dX1_isAhead_30 (by decide) ?_
      refine lv_goto (tgt := 35) S.1 S.2.1 dX1_isAhead_31 (by decide) ?_
      exact rd_ret S hr hlk (rfl) (by first | (rw [ahd, if_neg h12, decide_eq_true (by omega)]; rfl) | (rw [ahd, if_neg h12, decide_eq_false (by omega)]; rfl)) dX1_isAhead_35
end
section
/-! ===== methods that write: their world before and behind, at the same addresses ===== -/
def wF (ws : va_W) : Nat → Prop := fun q => ∃ (k : Nat) (e : va_E), ws[k]? = some (q, e)
theorem va_D_congr {A : Nat → Prop} {ws ws' : va_W} (h : ws'.map Prod.fst = ws.map Prod.fst) (hD : va_D A ws) : va_D A ws' := by
  have key : ∀ (i : Nat) (p : Nat × va_E), ws'[i]? = some p → ∃ p', ws[i]? = some p' ∧ p'.1 = p.1 := by
    intro i p hp
    have h1 : (ws'.map Prod.fst)[i]? = some p.1 := by rw [List.getElem?_map, hp]; rfl
    rw [h, List.getElem?_map] at h1
    cases hq : ws[i]? with
    | none => rw [hq] at h1; cases h1
    | some q => rw [hq] at h1; exact ⟨q, rfl, Option.some.inj h1⟩
  refine ⟨fun i j p q hp hq hpq => ?_, fun k q hq => ?_⟩
  · obtain ⟨p', a1, a2⟩ := key i p hp
    obtain ⟨q', b1, b2⟩ := key j q hq
    exact hD.1 i j p' q' a1 b1 (by rw [a2, b2, hpq])
  · obtain ⟨q', b1, b2⟩ := key k q hq
    rw [← b2]
    exact hD.2 k q' b1
theorem va_D.own {A : Nat → Prop} {ws : va_W} (h : va_D A ws) : va_D (wF ws) ws := ⟨h.1, fun k q hk => ⟨k, q.2, hk⟩⟩
theorem wr_join {A : Nat → Prop} {D : va_G} {cl : List vw_C} {u ws v ws' : va_W} {H H1 : Heap} (hP : va_P D cl (u ++ (ws ++ v)) H) (hD : va_D A (u ++ (ws ++ v))) (ha : ws'.map Prod.fst = ws.map Prod.fst) (hP1 : va_P D cl ws' H1)
    (hk : ∀ q, q < H.size → ¬ wF ws q → H1[q]? = H[q]?) : va_P D cl (u ++ (ws' ++ v)) H1 ∧ va_D A (u ++ (ws' ++ v)) := by
  have hlen : ws'.length = ws.length := by simpa using congrArg List.length ha
  refine ⟨fun k q hq => ?_, va_D_congr (by simp [ha]) hD⟩
  have old : (k < u.length ∨ u.length + ws.length ≤ k) → (u ++ (ws ++ v))[k]? = some q → va_at D cl q H1 := by
    intro hr ho
    have h1 := hP k q ho
    refine h1.kept (hk q.1 h1.lt ?_)
    rintro ⟨j, e, hj⟩
    have hj' : j < ws.length := (List.getElem?_eq_some_iff.mp hj).1
    have h2 : (u ++ (ws ++ v))[u.length + j]? = some (q.1, e) := by
      rw [List.getElem?_append_right (by omega), Nat.add_sub_cancel_left, List.getElem?_append_left hj']
      exact hj
    have := hD.1 k (u.length + j) q (q.1, e) ho h2 rfl
    omega
  by_cases h1 : k < u.length
  · refine old (Or.inl h1) ?_
    rw [List.getElem?_append_left h1] at hq ⊢
    exact hq
  · rw [List.getElem?_append_right (by omega)] at hq
    by_cases h2 : k - u.length < ws'.length
    · rw [List.getElem?_append_left h2] at hq
      exact hP1 _ q hq
    · rw [List.getElem?_append_right (by omega)] at hq
      refine old (Or.inr (by omega)) ?_
      rw [List.getElem?_append_right (by omega), List.getElem?_append_right (by omega), ← hlen]
      exact hq
abbrev wB (dC : Nat → ClassId) (dI : Nat → Nat → Nat) (cI cZ cJ : ClassId) (ws : va_W) : State → Prop := fun U => va_P (dC, dI) vcl ws U.heap ∧ va_K (dC, dI) vcl (vty cI cZ cJ) U ∧ va_D (fun _ => True) ws
theorem wB_blind {dC : Nat → ClassId} {dI : Nat → Nat → Nat} {cI cZ cJ : ClassId} {ws : va_W} {av : List Value} : FrameBlind (va_Pc av (wB dC dI cI cZ cJ ws)) := fun a U g mk q => ⟨q.1, q.2.1, va_K.moved (u := U) (U := U.calling g mk a) (Vm.Alike.refl U.vm) q.2.2.1, q.2.2.2⟩
def Qw (dC : Nat → ClassId) (dI : Nat → Nat → Nat) (ws ws' : va_W) (ov : Option Value) : Array Value → State → Outcome → State → Prop := fun _ st o t => o = .returned ov ∧ va_P (dC, dI) vcl ws' t.heap ∧ va_F (wF ws) st t
/-- a method that writes: from ws to ws', with the answer ov; it makes nothing -/
abbrev wr (l : Launch) (y : MethodName) (cc : ByteArray) (nL : Nat) (ret : Option FieldType) (fr lo : Nat) (av : List Value) (dC : Nat → ClassId) (dI : Nat → Nat → Nat) (cI cZ cJ : ClassId) (ws ws' : va_W) (ov : Option Value) : Prop :=
  Met l y (wT y cc nL ret) ({ frames := fr, cells := 0, slots := 0, locals := lo }) (va_Pc av (wB dC dI cI cZ cJ ws)) (Qw dC dI ws ws' ov) 0 0 (wF ws)
theorem wr_ofW {l : Launch} {y : MethodName} {cc : ByteArray} {nL fr lo : Nat} {ret : Option FieldType} {av : List Value} {dC : Nat → ClassId} {dI : Nat → Nat → Nat} {cI cZ cJ : ClassId} {ws ws' : va_W} {ov : Option Value} (own : String) (hy : plainName y.cls = true) (ho : y.cls = own) (hn : (lg_sl av).length ≤ nL)
    (body : ∀ (p : Program) (e : Env) (s : State) (m : MethodId) (below : List Frame) (meth : Method) (c : Code), CallFix p m c cc nL s av.toArray tbG own → meth.sig.returnType = ret → meth.locks = false → va_K (dC, dI) vcl (vty cI cZ cJ) s → va_P (dC, dI) vcl ws s.heap → va_D (wF ws) ws → va_S (wF ws) s.heap s.heap [] → ∀ ls : Array Slot, lv_has ls nL (lv_args 0 av) →
      W p l e ({ frames := fr, cells := 0, slots := 0, locals := lo } : Room) s m av.toArray below meth c s.heap [] 0 0 (MQ below (Qw dC dI ws ws' ov) av.toArray s 0 0 (wF ws)) (F0 m 0 ls [])) : wr l y cc nL ret fr lo av dC dI cI cZ cJ ws ws' ov := by
  refine Met.ofW (cc := cc) (maxL := nL) (ret := ret) hy rfl ?_
  intro p e s m args below meth c s₁ B0 hml hv
  obtain ⟨rfl, hP, hK, hD⟩ := hv
  have hts := atoms_spec (ws := wT y cc nL ret) B0.pre
  have hown : s.vm.findClass own = some m.cls := by rw [← ho]; exact findClass_of_methodNamed B0.named
  have hl := lv_entry av (n := nL) hn
  rw [lg_entry_eq]
  generalize (lg_sl av ++ List.replicate (nL - (lg_sl av).length) Slot.unset).toArray = ls at hl ⊢
  exact body p e s m below meth c ⟨B0.exec, B0.bytes, hml, hown, fun w hw => hts w (List.mem_cons_of_mem _ hw)⟩ B0.returns B0.notSynchronized hK hP hD.own va_S.rf ls hl
section WR
variable {p : Program} {l : Launch} {e : Env} {R : Room} {s : State} {m : MethodId} {args : Array Value} {below : List Frame} {meth : Method} {c : Code} {H : Heap} {locs : List Loc} {cells slots : Nat} {Q : State → Prop}
variable {cc : ByteArray} {pc nL : Nat} {ls : Array Slot} {rest : List Value} {own : String} {dC : Nat → ClassId} {dI : Nat → Nat → Nat} {cI cZ cJ : ClassId} {ws ws' ws1 u v : va_W} {A : Nat → Prop}
theorem wr_ret {x r : Int32} {ty : FieldType} (S : CallFix p m c cc nL s args tbG own) (hr : meth.sig.returnType = some ty) (hlk : meth.locks = false) (hn : narrow ty (.int x) = .int x) (hv : x = r) (hP : va_P (dC, dI) vcl ws1 H) (he : ws1 = ws') (hS : va_S (wF ws) s.heap H locs) (hdg : decode cc pc = .ok (.ireturn, 1)) :
    W p l e R s m args below meth c H locs cells slots (MQ below (Qw dC dI ws ws' (some (.int r))) args s cells slots (wF ws)) (F0 m pc ls [.int x]) :=
  W.zret (hlocks := hlk) S.1 S.2.1 hr hn (fun t ht _ => ⟨by rw [hv], by rw [ht, ← he]; exact hP, hS.F ht⟩) hS.2.2 hdg
theorem wr_retv (S : CallFix p m c cc nL s args tbG own) (hr : meth.sig.returnType = none) (hlk : meth.locks = false) (hP : va_P (dC, dI) vcl ws1 H) (he : ws1 = ws') (hS : va_S (wF ws) s.heap H locs) (hdg : decode cc pc = .ok (.return_, 1)) :
    W p l e R s m args below meth c H locs cells slots (MQ below (Qw dC dI ws ws' none) args s cells slots (wF ws)) (F0 m pc ls []) :=
  W.vret (hlocks := hlk) S.1 S.2.1 hr (fun t ht _ => ⟨rfl, by rw [ht, ← he]; exact hP, hS.F ht⟩) hS.2.2 hdg
/-- behind a call of a method that writes -/
theorem wr_back {a : Array Value} {st0 : List Value} {ov : Option Value} {H0 : Heap} (hr : va_Run p l e R s m args below meth c H locs cells slots 0 0 (F0 m pc ls st0) rest (Qw dC dI ws ws' ov a) (wF ws)) (hP : va_P (dC, dI) vcl (u ++ (ws ++ v)) H) (hD : va_D A (u ++ (ws ++ v))) (hS : va_S A H0 H locs) (ha : ws'.map Prod.fst = ws.map Prod.fst)
    (kk : ∀ (H1 : Heap) (locs1 : List Loc), va_P (dC, dI) vcl (u ++ (ws' ++ v)) H1 → va_D A (u ++ (ws' ++ v)) → va_S A H0 H1 locs1 → W p l e R s m args below meth c H1 locs1 cells slots Q (F0 m (pc + 3) ls (ov.toList ++ rest))) : W p l e R s m args below meth c H locs cells slots Q (F0 m pc ls st0) := by
  have hA : ∀ q, wF ws q → A q := by
    rintro q ⟨k, e, hk⟩
    have hk' : k < ws.length := (List.getElem?_eq_some_iff.mp hk).1
    refine hD.2 (u.length + k) (q, e) ?_
    rw [List.getElem?_append_right (by omega), Nat.add_sub_cancel_left, List.getElem?_append_left hk']
    exact hk
  intro T hT X
  obtain ⟨x, st₀, t, T', L, h0, X', hL, e1, e2, ⟨hv, hP1, hz, hk⟩, st⟩ := hr T hT X
  cases hv
  rw [h0] at hz hk
  obtain ⟨j1, j2⟩ := wr_join hP hD ha hP1 (fun q h1 h2 => hk q h1 h2)
  obtain ⟨t2, a1, b1⟩ := kk T'.heap (locs ++ L) (by rw [e1]; exact j1) j2
    ⟨Nat.le_trans hS.1 (by rw [e1]; exact hz), fun q h1 h2 => by rw [e1, hk q (Nat.lt_of_lt_of_le h1 hS.1) (fun z => h2 (hA q z))]; exact hS.2.1 q h1 h2, fun q hq => by
      rcases List.mem_append.mp hq with h | h
      · exact hS.2.2 q h
      · exact hA _ (hL q h)⟩ T' rfl X'
  exact ⟨t2, st t2 a1, b1⟩
theorem wr_sub (hP : va_P (dC, dI) vcl (u ++ (ws ++ v)) H) : va_P (dC, dI) vcl ws H := fun k q hk => hP (u.length + k) q (by
  have hk' : k < ws.length := (List.getElem?_eq_some_iff.mp hk).1
  rw [List.getElem?_append_right (by omega), Nat.add_sub_cancel_left, List.getElem?_append_left hk']
  exact hk)
theorem wr_subD (hD : va_D A (u ++ (ws ++ v))) : va_D (fun _ => True) ws := ⟨fun i j p q hp hq hpq => by
  have hi : i < ws.length := (List.getElem?_eq_some_iff.mp hp).1
  have hj : j < ws.length := (List.getElem?_eq_some_iff.mp hq).1
  have := hD.1 (u.length + i) (u.length + j) p q (by rw [List.getElem?_append_right (by omega), Nat.add_sub_cancel_left, List.getElem?_append_left hi]; exact hp) (by rw [List.getElem?_append_right (by omega), Nat.add_sub_cancel_left, List.getElem?_append_left hj]; exact hq) hpq
  omega, fun _ _ _ => trivial⟩
theorem wr_callV {y : MethodName} {bytes : ByteArray} {maxL index fr lo b : Nat} {ret : Option FieldType} {As : List Value} {ov : Option Value} {st : List Value} {C : String} {H0 : Heap} (S : CallFix p m c cc nL s args tbG own) (hM : wr l y bytes maxL ret fr lo (.ref b :: As) dC dI cI cZ cJ ws ws' ov)
    (hK : va_K (dC, dI) vcl (vty cI cZ cJ) s) (u v : va_W) (hP : va_P (dC, dI) vcl (u ++ (ws ++ v)) H) (hD : va_D A (u ++ (ws ++ v))) (hS : va_S A H0 H locs) (ha : ws'.map Prod.fst = ws.map Prod.fst)
    (hcl : ∃ cellB : Cell, H[b]? = some cellB ∧ cellB.vm.isStatics = false ∧ s.vm.findClass C = some cellB.cls)
    (hG : GoodIn tbG (wsV own index C y (wT y bytes maxL ret))) (hd : y.cls = C ∧ y.cls ≠ "java/lang/invoke/MethodHandle" ∧ y.cls ≠ "java/lang/invoke/VarHandle" ∧ (parseMethodDescriptor y.desc).map (fun d => d.parameters.length) = some As.length) (hR : fr + 1 ≤ R.frames ∧ 8 + (maxL + 11) + lo ≤ R.locals)
    (hls : ls.size = nL) (hst : st = As.reverse ++ .ref b :: rest) (hW : (rest.map fun v => v.category).sum ≤ 8) (hdg : decode cc pc = .ok (.invokevirtual index, 3)) (hf : cells ≤ R.cells ∧ slots ≤ R.slots)
    (kk : ∀ (H1 : Heap) (locs1 : List Loc), va_P (dC, dI) vcl (u ++ (ws' ++ v)) H1 → va_D A (u ++ (ws' ++ v)) → va_S A H0 H1 locs1 → W p l e R s m args below meth c H1 locs1 cells slots Q (F0 m (pc + 3) ls (ov.toList ++ rest))) : W p l e R s m args below meth c H locs cells slots Q (F0 m pc ls st) := by
  subst hst
  exact wr_back (va_runV (rest := rest) S hM (cwV As.length S.2.2.2.2 hG rfl rfl rfl hd hR) ⟨wB_blind, hcl, fun U hU hW => ⟨rfl, by rw [hU]; exact wr_sub hP, va_K.moved hW.alike hK, wr_subD hD⟩⟩ rfl rfl hls rfl (lv_room hW) hdg ⟨hf.1, hf.2⟩) hP hD hS ha kk
/-- a flag is stored -/
theorem n_zast {D : va_G} {cl : List vw_C} {ws : va_W} {tys : List (ClassId × FieldType)} {a : Nat} {H0 : Heap} (S : CallFix p m c cc nL s args tbG own) (hK : va_K D cl tys s) (hP : va_P D cl ws H) (hD : va_D A ws) (hS : va_S A H0 H locs) (q0 t0 : Nat) {cA : ClassId} {n : Nat} {f : Nat → Nat} (ha : ws[q0]? = some (a, .inl (cA, n, .inl fun k => nI (f k)))) (ht : tys[t0]? = some (cA, .boolean)) (hdg : decode cc pc = .ok (.bastore, 1)) {j x : Nat} (hn : n < 2 ^ 31) (hj : j < n) (hx : x ≤ 1)
    (kk : ∀ (H1 : Heap) (locs1 : List Loc), va_P D cl (ws.set q0 (a, .inl (cA, n, .inl fun k => nI (va_up f j x k)))) H1 → va_D A (ws.set q0 (a, .inl (cA, n, .inl fun k => nI (va_up f j x k)))) → va_S A H0 H1 locs1 → W p l e R s m args below meth c H1 locs1 cells slots Q (F0 m (pc + 1) ls rest)) : W p l e R s m args below meth c H locs cells slots Q (F0 m pc ls (.int (nI x) :: .int (nI j) :: .ref a :: rest)) := by
  refine va_zast S.1 S.2.1 hK hP hD hS q0 t0 ha ht (vp_in_nI hj hn) hdg ?_
  have e1 : vp_nar .boolean (nI x) = nI x := by
    rcases Nat.le_one_iff_eq_zero_or_eq_one.mp hx with rfl | rfl <;> decide
  rw [nI_clamp (Nat.lt_trans hj hn), e1, up_nI]
  exact kk
end WR
end
section
/-! ===== the class: writers ===== -/
/-- the letters with the first i of the row as those of word mw -/
def adL (n mw i : Nat) (sg fo L : Nat → Nat) : Nat → Nat := fun k => if 15 * mw ≤ k ∧ k < 15 * mw + i then fsg sg fo (k - 15 * mw) else L k
theorem adL_0 {n mw : Nat} {sg fo L : Nat → Nat} : adL n mw 0 sg fo L = L := by
  funext k
  rw [adL, if_neg (by omega)]
theorem adL_s {n mw i : Nat} {sg fo L : Nat → Nat} : va_up (adL n mw i sg fo L) (15 * mw + i) (fsg sg fo i) = adL n mw (i + 1) sg fo L := by
  funext k
  by_cases h : k = 15 * mw + i
  · subst h
    rw [va_up_self, adL, if_pos (by omega), Nat.add_sub_cancel_left]
  · rw [va_up_ne _ _ h, adL, adL]
    by_cases q : 15 * mw ≤ k ∧ k < 15 * mw + i
    · rw [if_pos q, if_pos (by omega)]
    · rw [if_neg q, if_neg (by omega)]
set_option maxRecDepth 100000 in
theorem kX0_signF (l : Launch) (dC : Nat → ClassId) (dI : Nat → Nat → Nat) (cI cZ cJ : ClassId) (a : Nat → Nat) (n mw nf : Nat) (sg fo L le sc li ba ca st : Nat → Nat) (u : Int32) (hI : iv n mw nf sg fo L le sc li ba ca) (hu : n = 15 ∨ (isL u = false ∧ ¬ u = nI 63)) : rd l yX0_sign cX0_sign 2 (some .boolean) 1 20 [.ref (a 0), .int u] (rB dC dI cI cZ cJ (vX cI cZ a n mw nf sg fo L le sc li ba ca st)) (nI (0)) := by
  refine rd_ofW RX0 (by decide) rfl (Nat.le_of_ble_eq_true rfl) ?_
  intro p e s m below meth c S hr hlk hB ls hl
  obtain ⟨hP, hK⟩ := hB
  have hl : lv_has ls 2 [(0, .ref (a 0)), (1, .int u)] := hl
  obtain ⟨⟨hn, hm, hf⟩, ⟨hsg, hfo, hL, hle, hsc, hli, hba, hca⟩, hv1, hv2, hv3, hv4, hv5, hv6, hv7⟩ := id hI
  refine lv_aload_n S.1 S.2.1 dX0_sign_0 rfl (lv_at hl 0 rfl) ?_
  refine fX0_signCount (v := .int (nI n)) S hK hP rfl rfl dX0_sign_1 ?_
  refine lv_bipush (v := (nI 15)) S.1 S.2.1 dX0_sign_4 (by decide) ?_
  refine n_icmp_ge (x := n) (y := 15) (tgt := 22) S dX0_sign_6 (by decide) (by omega) (by omega) (fun h6 => ?_) (fun h6 => ?_)
  · refine lv_iconst (v := (nI 0)) S.1 S.2.1 dX0_sign_22 (by decide) ?_
    exact rd_ret S hr hlk (rfl) (rfl) dX0_sign_23
  · refine lv_iload_n S.1 S.2.1 dX0_sign_9 rfl (lv_at hl 1 rfl) ?_
    refine rd_callS (As := [.int u]) (rest := []) S (kX0_isLetter l u) tr_blind (fun _ _ _ => trivial) gX0_48 hdX0_isLetter (by decide) hl.1 rfl (Nat.le_of_ble_eq_true rfl) dX0_sign_10 ⟨Nat.zero_le _, Nat.zero_le _⟩ ?_
    refine n_bif_ne (b := isL u) (tgt := 24) S dX0_sign_13 (by decide) (fun h13 => ?_) (fun h13 => ?_)
    · exact absurd h13 (by rcases hu with q | q; exact absurd q (by omega); rw [q.1]; decide)
    · refine lv_iload_n S.1 S.2.1 dX0_sign_16 rfl (lv_at hl 1 rfl) ?_
      refine lv_bipush (v := (nI 63)) S.1 S.2.1 dX0_sign_17 (by decide) ?_
      refine lv_icmp_eq (tgt := 24) S.1 S.2.1 dX0_sign_19 (by decide) (fun h19 => ?_) (fun h19 => ?_)
      · exact absurd h19 (by rcases hu with q | q; exact absurd q (by omega); exact q.2)
      · refine lv_iconst (v := (nI 0)) S.1 S.2.1 dX0_sign_22 (by decide) ?_
        exact rd_ret S hr hlk (rfl) (rfl) dX0_sign_23

set_option maxRecDepth 100000 in
set_option maxHeartbeats 1000000 in
theorem kX0_signT (l : Launch) (dC : Nat → ClassId) (dI : Nat → Nat → Nat) (cI cZ cJ : ClassId) (a : Nat → Nat) (n mw nf : Nat) (sg fo L le sc li ba ca st : Nat → Nat) (j : Nat) (hI : iv n mw nf sg fo L le sc li ba ca) (hj : j = 63 ∨ (97 ≤ j ∧ j ≤ 122)) (hn5 : n < 15) : wr l yX0_sign cX0_sign 2 (some .boolean) 1 20 [.ref (a 0), .int (nI j)] dC dI cI cZ cJ (vX cI cZ a n mw nf sg fo L le sc li ba ca st) (vX cI cZ a (n + 1) mw nf (va_up sg n j) fo L le sc li ba ca st) (some (.int (nI (1)))) := by
  refine wr_ofW RX0 (by decide) rfl (Nat.le_of_ble_eq_true rfl) ?_
  intro p e s m below meth c S hr hlk hK hP hD hS ls hl
  have hl : lv_has ls 2 [(0, .ref (a 0)), (1, .int (nI j))] := hl
  obtain ⟨⟨hn, hm, hf⟩, ⟨hsg, hfo, hL, hle, hsc, hli, hba, hca⟩, hv1, hv2, hv3, hv4, hv5, hv6, hv7⟩ := id hI
  refine lv_aload_n S.1 S.2.1 dX0_sign_0 rfl (lv_at hl 0 rfl) ?_
  refine fX0_signCount (v := .int (nI n)) S hK hP rfl rfl dX0_sign_1 ?_
  refine lv_bipush (v := (nI 15)) S.1 S.2.1 dX0_sign_4 (by decide) ?_
  refine n_icmp_ge (x := n) (y := 15) (tgt := 22) S dX0_sign_6 (by decide) (by omega) (by omega) (fun h6 => ?_) (fun h6 => ?_)
  · exact absurd h6 (by omega)
  · refine lv_iload_n S.1 S.2.1 dX0_sign_9 rfl (lv_at hl 1 rfl) ?_
    refine rd_callS (As := [.int (nI j)]) (rest := []) S (kX0_isLetter l ((nI j))) tr_blind (fun _ _ _ => trivial) gX0_48 hdX0_isLetter (by decide) hl.1 rfl (Nat.le_of_ble_eq_true rfl) dX0_sign_10 ⟨Nat.zero_le _, Nat.zero_le _⟩ ?_
    rw [isL_n (by omega)]
    refine n_bif_ne (b := (decide (97 ≤ j) && decide (j < 123))) (tgt := 24) S dX0_sign_13 (by decide) (fun h13 => ?_) (fun h13 => ?_)
    · refine lv_aload_n S.1 S.2.1 dX0_sign_24 rfl (lv_at hl 0 rfl) ?_
      refine fX0_signs (v := .ref (a 1)) S hK hP rfl rfl dX0_sign_25 ?_
      refine lv_aload_n S.1 S.2.1 dX0_sign_28 rfl (lv_at hl 0 rfl) ?_
      refine fX0_signCount (v := .int (nI n)) S hK hP rfl rfl dX0_sign_29 ?_
      refine lv_iload_n S.1 S.2.1 dX0_sign_32 rfl (lv_at hl 1 rfl) ?_
      refine n_iast S hK hP hD hS 1 0 rfl rfl dX0_sign_33 (j := n) (x := j) (by decide) (by omega) (fun H locs hP hD hS => ?_)
      have hP : va_P (dC, dI) vcl (vX cI cZ a n mw nf (va_up sg n j) fo L le sc li ba ca st) H := hP
      have hD : va_D (wF (vX cI cZ a n mw nf sg fo L le sc li ba ca st)) (vX cI cZ a n mw nf (va_up sg n j) fo L le sc li ba ca st) := hD
      refine lv_aload_n S.1 S.2.1 dX0_sign_34 rfl (lv_at hl 0 rfl) ?_
      refine lv_dup S.1 S.2.1 dX0_sign_35 rfl ?_
      refine fX0_signCount (v := .int (nI n)) S hK hP rfl rfl dX0_sign_36 ?_
      refine lv_iconst (v := (nI 1)) S.1 S.2.1 dX0_sign_39 (by decide) ?_
      refine n_iadd (x := n) (y := 1) S dX0_sign_40 ?_
      refine pX0_signCount S hK hP hD hS rfl (Nat.le_of_ble_eq_true rfl) dX0_sign_41 (fun H locs hP hD hS => ?_)
      have hP : va_P (dC, dI) vcl (vX cI cZ a (n + 1) mw nf (va_up sg n j) fo L le sc li ba ca st) H := hP
      have hD : va_D (wF (vX cI cZ a n mw nf sg fo L le sc li ba ca st)) (vX cI cZ a (n + 1) mw nf (va_up sg n j) fo L le sc li ba ca st) := hD
      refine lv_iconst (v := (nI 1)) S.1 S.2.1 dX0_sign_44 (by decide) ?_
      exact wr_ret S hr hlk (rfl) (rfl) hP (rfl) hS dX0_sign_45
    · refine lv_iload_n S.1 S.2.1 dX0_sign_16 rfl (lv_at hl 1 rfl) ?_
      refine lv_bipush (v := (nI 63)) S.1 S.2.1 dX0_sign_17 (by decide) ?_
      refine n_icmp_eq (x := j) (y := 63) (tgt := 24) S dX0_sign_19 (by decide) (by omega) (by omega) (fun h19 => ?_) (fun h19 => ?_)
      · refine lv_aload_n S.1 S.2.1 dX0_sign_24 rfl (lv_at hl 0 rfl) ?_
        refine fX0_signs (v := .ref (a 1)) S hK hP rfl rfl dX0_sign_25 ?_
        refine lv_aload_n S.1 S.2.1 dX0_sign_28 rfl (lv_at hl 0 rfl) ?_
        refine fX0_signCount (v := .int (nI n)) S hK hP rfl rfl dX0_sign_29 ?_
        refine lv_iload_n S.1 S.2.1 dX0_sign_32 rfl (lv_at hl 1 rfl) ?_
        refine n_iast S hK hP hD hS 1 0 rfl rfl dX0_sign_33 (j := n) (x := j) (by decide) (by omega) (fun H locs hP hD hS => ?_)
        have hP : va_P (dC, dI) vcl (vX cI cZ a n mw nf (va_up sg n j) fo L le sc li ba ca st) H := hP
        have hD : va_D (wF (vX cI cZ a n mw nf sg fo L le sc li ba ca st)) (vX cI cZ a n mw nf (va_up sg n j) fo L le sc li ba ca st) := hD
        refine lv_aload_n S.1 S.2.1 dX0_sign_34 rfl (lv_at hl 0 rfl) ?_
        refine lv_dup S.1 S.2.1 dX0_sign_35 rfl ?_
        refine fX0_signCount (v := .int (nI n)) S hK hP rfl rfl dX0_sign_36 ?_
        refine lv_iconst (v := (nI 1)) S.1 S.2.1 dX0_sign_39 (by decide) ?_
        refine n_iadd (x := n) (y := 1) S dX0_sign_40 ?_
        refine pX0_signCount S hK hP hD hS rfl (Nat.le_of_ble_eq_true rfl) dX0_sign_41 (fun H locs hP hD hS => ?_)
        have hP : va_P (dC, dI) vcl (vX cI cZ a (n + 1) mw nf (va_up sg n j) fo L le sc li ba ca st) H := hP
        have hD : va_D (wF (vX cI cZ a n mw nf sg fo L le sc li ba ca st)) (vX cI cZ a (n + 1) mw nf (va_up sg n j) fo L le sc li ba ca st) := hD
        refine lv_iconst (v := (nI 1)) S.1 S.2.1 dX0_sign_44 (by decide) ?_
        exact wr_ret S hr hlk (rfl) (rfl) hP (rfl) hS dX0_sign_45
      · exact absurd hj (by simp only [Bool.and_eq_false_iff, decide_eq_false_iff_not] at h13; omega)

set_option maxRecDepth 100000 in
set_option maxHeartbeats 1000000 in
theorem kX0_clear (l : Launch) (dC : Nat → ClassId) (dI : Nat → Nat → Nat) (cI cZ cJ : ClassId) (a : Nat → Nat) (n mw nf : Nat) (sg fo L le sc li ba ca st : Nat → Nat) (hI : iv n mw nf sg fo L le sc li ba ca) : wr l yX0_clear cX0_clear 1 none 0 0 [.ref (a 0)] dC dI cI cZ cJ (vX cI cZ a n mw nf sg fo L le sc li ba ca st) (vX cI cZ a 0 mw nf sg fo L le sc li ba ca st) none := by
  refine wr_ofW RX0 (by decide) rfl (Nat.le_of_ble_eq_true rfl) ?_
  intro p e s m below meth c S hr hlk hK hP hD hS ls hl
  have hl : lv_has ls 1 [(0, .ref (a 0))] := hl
  obtain ⟨⟨hn, hm, hf⟩, ⟨hsg, hfo, hL, hle, hsc, hli, hba, hca⟩, hv1, hv2, hv3, hv4, hv5, hv6, hv7⟩ := id hI
  refine lv_aload_n S.1 S.2.1 dX0_clear_0 rfl (lv_at hl 0 rfl) ?_
  refine lv_iconst (v := (nI 0)) S.1 S.2.1 dX0_clear_1 (by decide) ?_
  refine pX0_signCount S hK hP hD hS rfl (Nat.le_of_ble_eq_true rfl) dX0_clear_2 (fun H locs hP hD hS => ?_)
  have hP : va_P (dC, dI) vcl (vX cI cZ a 0 mw nf sg fo L le sc li ba ca st) H := hP
  have hD : va_D (wF (vX cI cZ a n mw nf sg fo L le sc li ba ca st)) (vX cI cZ a 0 mw nf sg fo L le sc li ba ca st) := hD
  exact wr_retv S hr hlk hP (rfl) hS dX0_clear_5

set_option maxRecDepth 100000 in
set_option maxHeartbeats 1000000 in
theorem kX0_fold (l : Launch) (dC : Nat → ClassId) (dI : Nat → Nat → Nat) (cI cZ cJ : ClassId) (a : Nat → Nat) (n mw nf : Nat) (sg fo L le sc li ba ca st : Nat → Nat) (y : Nat) (z : Nat) (hI : iv n mw nf sg fo L le sc li ba ca) (hy : 97 ≤ y ∧ y ≤ 122) (hz : 97 ≤ z ∧ z ≤ 122) : wr l yX0_fold cX0_fold 3 none 2 40 [.ref (a 0), .int (nI y), .int (nI z)] dC dI cI cZ cJ (vX cI cZ a n mw nf sg fo L le sc li ba ca st) (vX cI cZ a n mw nf sg (va_up fo (y - 97) z) L le sc li ba ca st) none := by
  refine wr_ofW RX0 (by decide) rfl (Nat.le_of_ble_eq_true rfl) ?_
  intro p e s m below meth c S hr hlk hK hP hD hS ls hl
  have hl : lv_has ls 3 [(0, .ref (a 0)), (1, .int (nI y)), (2, .int (nI z))] := hl
  obtain ⟨⟨hn, hm, hf⟩, ⟨hsg, hfo, hL, hle, hsc, hli, hba, hca⟩, hv1, hv2, hv3, hv4, hv5, hv6, hv7⟩ := id hI
  refine lv_iload_n S.1 S.2.1 dX0_fold_0 rfl (lv_at hl 1 rfl) ?_
  refine rdv_callS (As := [.int (nI y)]) (rest := []) S (kX0_needLetter l y hy) tr_blind (fun _ _ _ => trivial) gX0_52 hdX0_needLetter (by decide) hl.1 rfl (Nat.le_of_ble_eq_true rfl) dX0_fold_1 ⟨Nat.zero_le _, Nat.zero_le _⟩ ?_
  refine lv_iload_n S.1 S.2.1 dX0_fold_4 rfl (lv_at hl 2 rfl) ?_
  refine rdv_callS (As := [.int (nI z)]) (rest := []) S (kX0_needLetter l z hz) tr_blind (fun _ _ _ => trivial) gX0_52 hdX0_needLetter (by decide) hl.1 rfl (Nat.le_of_ble_eq_true rfl) dX0_fold_5 ⟨Nat.zero_le _, Nat.zero_le _⟩ ?_
  refine lv_aload_n S.1 S.2.1 dX0_fold_8 rfl (lv_at hl 0 rfl) ?_
  refine fX0_folding (v := .ref (a 2)) S hK hP rfl rfl dX0_fold_9 ?_
  refine lv_iload_n S.1 S.2.1 dX0_fold_12 rfl (lv_at hl 1 rfl) ?_
  refine lv_bipush (v := (nI 97)) S.1 S.2.1 dX0_fold_13 (by decide) ?_
  refine n_isub (x := y) (y := 97) S dX0_fold_15 (by omega) ?_
  refine lv_iload_n S.1 S.2.1 dX0_fold_16 rfl (lv_at hl 2 rfl) ?_
  refine n_iast S hK hP hD hS 2 0 rfl rfl dX0_fold_17 (j := y - 97) (x := z) (by decide) (by omega) (fun H locs hP hD hS => ?_)
  have hP : va_P (dC, dI) vcl (vX cI cZ a n mw nf sg (va_up fo (y - 97) z) L le sc li ba ca st) H := hP
  have hD : va_D (wF (vX cI cZ a n mw nf sg fo L le sc li ba ca st)) (vX cI cZ a n mw nf sg (va_up fo (y - 97) z) L le sc li ba ca st) := hD
  exact wr_retv S hr hlk hP (rfl) hS dX0_fold_18

set_option maxRecDepth 100000 in
set_option maxHeartbeats 1000000 in
theorem lX0_addWordOfRow_7 (l : Launch) (dC : Nat → ClassId) (dI : Nat → Nat → Nat) (cI cZ cJ : ClassId) (a : Nat → Nat) (n mw nf : Nat) (sg fo L le sc li ba ca st : Nat → Nat) (hI : iv n mw nf sg fo L le sc li ba ca) (hmw : mw < 250)   {p : Program} {e : Env} {s : State} {m : MethodId} {below : List Frame} {meth : Method} {c : Code}(S : CallFix p m c cX0_addWordOfRow 3 s ([.ref (a 0)] : List Value).toArray tbG RX0) (hr : meth.sig.returnType = (some .int)) (hlk : meth.locks = false) (hK : va_K (dC, dI) vcl (vty cI cZ cJ) s) :
    ∀ (fuel : Nat) (i : Nat), n - i < fuel → i ≤ n → ∀ (H : Heap) (locs : List Loc), va_P (dC, dI) vcl (vX cI cZ a n mw nf sg fo (adL n mw i sg fo L) le sc li ba ca st) H → va_D (wF (vX cI cZ a n mw nf sg fo L le sc li ba ca st)) (vX cI cZ a n mw nf sg fo (adL n mw i sg fo L) le sc li ba ca st) → va_S (wF (vX cI cZ a n mw nf sg fo L le sc li ba ca st)) s.heap H locs → ∀ ls : Array Slot, lv_has ls 3 [(0, .ref (a 0)), (1, .int (nI mw)), (2, .int (nI i))] → W p l e ({ frames := 2, cells := 0, slots := 0, locals := 42 } : Room) s m ([.ref (a 0)] : List Value).toArray below meth c H locs 0 0 (MQ below (Qw dC dI (vX cI cZ a n mw nf sg fo L le sc li ba ca st) (vX cI cZ a n (mw + 1) nf sg fo (adL n mw n sg fo L) (va_up le mw n) sc li ba ca st) (some (.int (nI (mw))))) ([.ref (a 0)] : List Value).toArray s 0 0 (wF (vX cI cZ a n mw nf sg fo L le sc li ba ca st))) (F0 m 7 ls []) := by
  obtain ⟨⟨hn, hm, hf⟩, ⟨hsg, hfo, hL, hle, hsc, hli, hba, hca⟩, hv1, hv2, hv3, hv4, hv5, hv6, hv7⟩ := id hI
  intro fuel
  induction fuel with
  | zero =>
    intro i hq
    exact absurd hq (Nat.not_lt_zero _)
  | succ fuel ih =>
    intro i hq hi H locs hP hD hS ls hl
    refine lv_iload_n S.1 S.2.1 dX0_addWordOfRow_7 rfl (lv_at hl 2 rfl) ?_
    refine lv_aload_n S.1 S.2.1 dX0_addWordOfRow_8 rfl (lv_at hl 0 rfl) ?_
    refine fX0_signCount (v := .int (nI n)) S hK hP rfl rfl dX0_addWordOfRow_9 ?_
    refine n_icmp_ge (x := i) (y := n) (tgt := 37) S dX0_addWordOfRow_12 (by decide) (by omega) (by omega) (fun h12 => ?_) (fun h12 => ?_)
    · refine lv_aload_n S.1 S.2.1 dX0_addWordOfRow_37 rfl (lv_at hl 0 rfl) ?_
      refine fX0_wordLengths (v := .ref (a 4)) S hK hP rfl rfl dX0_addWordOfRow_38 ?_
      refine lv_iload_n S.1 S.2.1 dX0_addWordOfRow_41 rfl (lv_at hl 1 rfl) ?_
      refine lv_aload_n S.1 S.2.1 dX0_addWordOfRow_42 rfl (lv_at hl 0 rfl) ?_
      refine fX0_signCount (v := .int (nI n)) S hK hP rfl rfl dX0_addWordOfRow_43 ?_
      refine n_iast S hK hP hD hS 4 0 rfl rfl dX0_addWordOfRow_46 (j := mw) (x := n) (by decide) (by omega) (fun H locs hP hD hS => ?_)
      have hP : va_P (dC, dI) vcl (vX cI cZ a n mw nf sg fo (adL n mw i sg fo L) (va_up le mw n) sc li ba ca st) H := hP
      have hD : va_D (wF (vX cI cZ a n mw nf sg fo L le sc li ba ca st)) (vX cI cZ a n mw nf sg fo (adL n mw i sg fo L) (va_up le mw n) sc li ba ca st) := hD
      refine lv_aload_n S.1 S.2.1 dX0_addWordOfRow_47 rfl (lv_at hl 0 rfl) ?_
      refine lv_dup S.1 S.2.1 dX0_addWordOfRow_48 rfl ?_
      refine fX0_wordCount (v := .int (nI mw)) S hK hP rfl rfl dX0_addWordOfRow_49 ?_
      refine lv_iconst (v := (nI 1)) S.1 S.2.1 dX0_addWordOfRow_52 (by decide) ?_
      refine n_iadd (x := mw) (y := 1) S dX0_addWordOfRow_53 ?_
      refine pX0_wordCount S hK hP hD hS rfl (Nat.le_of_ble_eq_true rfl) dX0_addWordOfRow_54 (fun H locs hP hD hS => ?_)
      have hP : va_P (dC, dI) vcl (vX cI cZ a n (mw + 1) nf sg fo (adL n mw i sg fo L) (va_up le mw n) sc li ba ca st) H := hP
      have hD : va_D (wF (vX cI cZ a n mw nf sg fo L le sc li ba ca st)) (vX cI cZ a n (mw + 1) nf sg fo (adL n mw i sg fo L) (va_up le mw n) sc li ba ca st) := hD
      refine lv_iload_n S.1 S.2.1 dX0_addWordOfRow_57 rfl (lv_at hl 1 rfl) ?_
      exact wr_ret S hr hlk (rfl) (rfl) hP (by rw [show i = n by omega]) hS dX0_addWordOfRow_58
    · refine lv_aload_n S.1 S.2.1 dX0_addWordOfRow_15 rfl (lv_at hl 0 rfl) ?_
      refine fX0_wordLetters (v := .ref (a 3)) S hK hP rfl rfl dX0_addWordOfRow_16 ?_
      refine lv_iload_n S.1 S.2.1 dX0_addWordOfRow_19 rfl (lv_at hl 1 rfl) ?_
      refine lv_bipush (v := (nI 15)) S.1 S.2.1 dX0_addWordOfRow_20 (by decide) ?_
      refine n_imul (x := mw) (y := 15) S dX0_addWordOfRow_22 ?_
      refine lv_iload_n S.1 S.2.1 dX0_addWordOfRow_23 rfl (lv_at hl 2 rfl) ?_
      refine n_iadd (x := mw * 15) (y := i) S dX0_addWordOfRow_24 ?_
      refine lv_aload_n S.1 S.2.1 dX0_addWordOfRow_25 rfl (lv_at hl 0 rfl) ?_
      refine lv_iload_n S.1 S.2.1 dX0_addWordOfRow_26 rfl (lv_at hl 2 rfl) ?_
      refine rd_callV (C := RX0) (As := [.int (nI i)]) (rest := [.int (nI ((mw * 15) + i)), .ref (a 3)]) S (kX0_foldedSign l dC dI cI cZ cJ a n mw nf sg fo (adL n mw i sg fo L) le sc li ba ca st i (iv_r hI) (by omega)) rB_blind (fun U hU hW => ⟨by rw [hU]; exact hP, va_K.moved hW.alike hK⟩) (va_recv hK hP (ci := 0) (q0 := 0) rfl rfl) gX0_127 hdX0_foldedSign (by decide) hl.1 rfl (Nat.le_of_ble_eq_true rfl) dX0_addWordOfRow_27 ⟨Nat.zero_le _, Nat.zero_le _⟩ ?_
      refine n_iast S hK hP hD hS 3 0 rfl rfl dX0_addWordOfRow_30 (j := (mw * 15) + i) (x := fsg sg fo i) (by decide) (by omega) (fun H locs hP hD hS => ?_)
      have hP : va_P (dC, dI) vcl (vX cI cZ a n mw nf sg fo (va_up (adL n mw i sg fo L) ((mw * 15) + i) (fsg sg fo i)) le sc li ba ca st) H := hP
      have hD : va_D (wF (vX cI cZ a n mw nf sg fo L le sc li ba ca st)) (vX cI cZ a n mw nf sg fo (va_up (adL n mw i sg fo L) ((mw * 15) + i) (fsg sg fo i)) le sc li ba ca st) := hD
      refine n_iinc (lv' := [(2, .int (nI (i + 1))), (0, .ref (a 0)), (1, .int (nI mw))]) (x := i) (k := 2) S dX0_addWordOfRow_31 hl rfl (by decide) rfl (fun ls hl => ?_)
      refine lv_goto (tgt := 7) S.1 S.2.1 dX0_addWordOfRow_34 (by decide) ?_
      have e0 : vX cI cZ a n mw nf sg fo (va_up (adL n mw i sg fo L) ((mw * 15) + i) (fsg sg fo i)) le sc li ba ca st = vX cI cZ a n mw nf sg fo (adL n mw (i + 1) sg fo L) le sc li ba ca st := (by rw [← adL_s, Nat.mul_comm mw 15])
      exact ih (i + 1) (by omega) (by omega) _ _ (by rw [← e0]; exact hP) (by rw [← e0]; exact hD) hS ls (lv_sub hl [1, 2, 0] rfl)
set_option maxRecDepth 100000 in
set_option maxHeartbeats 1000000 in
theorem kX0_addWordOfRow (l : Launch) (dC : Nat → ClassId) (dI : Nat → Nat → Nat) (cI cZ cJ : ClassId) (a : Nat → Nat) (n mw nf : Nat) (sg fo L le sc li ba ca st : Nat → Nat) (hI : iv n mw nf sg fo L le sc li ba ca) (hmw : mw < 250) : wr l yX0_addWordOfRow cX0_addWordOfRow 3 (some .int) 2 42 [.ref (a 0)] dC dI cI cZ cJ (vX cI cZ a n mw nf sg fo L le sc li ba ca st) (vX cI cZ a n (mw + 1) nf sg fo (adL n mw n sg fo L) (va_up le mw n) sc li ba ca st) (some (.int (nI (mw)))) := by
  refine wr_ofW RX0 (by decide) rfl (Nat.le_of_ble_eq_true rfl) ?_
  intro p e s m below meth c S hr hlk hK hP hD hS ls hl
  have hl : lv_has ls 3 [(0, .ref (a 0))] := hl
  obtain ⟨⟨hn, hm, hf⟩, ⟨hsg, hfo, hL, hle, hsc, hli, hba, hca⟩, hv1, hv2, hv3, hv4, hv5, hv6, hv7⟩ := id hI
  refine lv_aload_n S.1 S.2.1 dX0_addWordOfRow_0 rfl (lv_at hl 0 rfl) ?_
  refine fX0_wordCount (v := .int (nI mw)) S hK hP rfl rfl dX0_addWordOfRow_1 ?_
  refine lv_istore_n (lv' := [(1, .int (nI mw)), (0, .ref (a 0))]) S.1 S.2.1 dX0_addWordOfRow_4 rfl hl (by decide) rfl (fun ls hl => ?_)
  refine lv_iconst (v := (nI 0)) S.1 S.2.1 dX0_addWordOfRow_5 (by decide) ?_
  refine lv_istore_n (lv' := [(2, .int (nI 0)), (1, .int (nI mw)), (0, .ref (a 0))]) S.1 S.2.1 dX0_addWordOfRow_6 rfl hl (by decide) rfl (fun ls hl => ?_)
  have e0 : vX cI cZ a n mw nf sg fo L le sc li ba ca st = vX cI cZ a n mw nf sg fo (adL n mw 0 sg fo L) le sc li ba ca st := (by rw [adL_0])
  exact lX0_addWordOfRow_7 l dC dI cI cZ cJ a n mw nf sg fo L le sc li ba ca st hI hmw S hr hlk hK _ 0 (Nat.lt_succ_self _) (by omega) _ _ (by rw [← e0]; exact hP) (by rw [← e0]; exact hD) hS ls (lv_sub hl [2, 1, 0] rfl)
end
section
/-! ===== the class: writers, second part ===== -/
theorem nI_m1 {w : Nat} (h : w < 2 ^ 31) : ¬ nI w = -1 := fun q => by
  have := congrArg Int32.toInt q
  rw [nI_toInt h, show (-1 : Int32).toInt = -1 by decide] at this
  omega
def brF (on : Bool) (P : Nat → Bool) (ba : Nat → Nat) (i : Nat) : Nat → Nat := fun k => if k < i ∧ P k = true then on.toNat else ba k
def brP (on : Bool) (P : Nat → Bool) (ba : Nat → Nat) : Nat → Bool := fun k => P k && decide (ba k ≠ on.toNat)
theorem brF_at {on : Bool} {P : Nat → Bool} {ba : Nat → Nat} {i : Nat} : brF on P ba i i = ba i := by rw [brF, if_neg (by omega)]
theorem brF_0 {on : Bool} {P : Nat → Bool} {ba : Nat → Nat} : brF on P ba 0 = ba := by
  funext k; rw [brF, if_neg (by omega)]
theorem brF_t {on : Bool} {P : Nat → Bool} {ba : Nat → Nat} {i : Nat} (h : P i = true) : va_up (brF on P ba i) i on.toNat = brF on P ba (i + 1) := by
  funext k
  by_cases q : k = i
  · subst q; rw [va_up_self, brF, if_pos ⟨by omega, h⟩]
  · rw [va_up_ne _ _ q, brF, brF]
    by_cases z : k < i ∧ P k = true
    · rw [if_pos z, if_pos ⟨by omega, z.2⟩]
    · rw [if_neg z, if_neg (fun y => z ⟨by omega, y.2⟩)]
theorem brF_f {on : Bool} {P : Nat → Bool} {ba : Nat → Nat} {i : Nat} (h : P i = false) : brF on P ba i = brF on P ba (i + 1) := by
  funext k
  rw [brF, brF]
  by_cases z : k < i ∧ P k = true
  · rw [if_pos z, if_pos ⟨by omega, z.2⟩]
  · rw [if_neg z, if_neg (fun y => by
      by_cases q : k = i
      · subst q; rw [h] at y; exact absurd y.2 (by decide)
      · exact z ⟨by omega, y.2⟩)]
theorem brF_e {on : Bool} {P : Nat → Bool} {ba : Nat → Nat} {i : Nat} (h : ba i = on.toNat) : brF on P ba i = brF on P ba (i + 1) := by
  funext k
  rw [brF, brF]
  by_cases z : k < i ∧ P k = true
  · rw [if_pos z, if_pos ⟨by omega, z.2⟩]
  · rw [if_neg z]
    by_cases y : k < i + 1 ∧ P k = true
    · rw [if_pos y, show k = i from by
        by_cases q : k = i
        · exact q
        · exact absurd ⟨by omega, y.2⟩ z]
      exact h
    · rw [if_neg y]
theorem iv_ba {n mw nf : Nat} {sg fo L le sc li ba ca : Nat → Nat} (hI : iv n mw nf sg fo L le sc li ba ca) (on : Bool) (P : Nat → Bool) (i : Nat) (hi : i ≤ mw) : iv n mw nf sg fo L le sc li (brF on P ba i) ca := by
  obtain ⟨h1, ⟨hsg, hfo, hL, hle, hsc, hli, hba, hca⟩, hv1, hv2, hv3, hv4, hv5, hv6, hv7⟩ := hI
  refine ⟨h1, ⟨hsg, hfo, hL, hle, hsc, hli, fun k => ?_, hca⟩, hv1, hv2, hv3, hv4, hv5, fun w hw => ⟨(hv6 w hw).1, (hv6 w hw).2.1, ?_⟩, hv7⟩
  · rw [brF]; split
    · cases on <;> decide
    · exact hba k
  · rw [brF, if_neg (by omega)]; exact (hv6 w hw).2.2
def mgP (hw u v : Nat) (li : Nat → Nat) : Nat → Bool := fun k => cho hw (inl li k u) (inl li k v)
def mgF (hw t u v : Nat) (li : Nat → Nat) (i : Nat) : Nat → Nat := fun k => if k < i then (if mgP hw u v li k = true then li k ||| 2 ^ t else li k &&& (15 - 2 ^ t)) else li k
theorem mgF_at {hw t u v i : Nat} {li : Nat → Nat} : mgF hw t u v li i i = li i := by rw [mgF, if_neg (by omega)]
theorem mgF_in {hw t u v i x : Nat} {li : Nat → Nat} : inl (mgF hw t u v li i) i x = inl li i x := by rw [inl, mgF_at, inl]
theorem mgF_0 {hw t u v : Nat} {li : Nat → Nat} : mgF hw t u v li 0 = li := by
  funext k; rw [mgF, if_neg (by omega)]
theorem mgF_t {hw t u v i : Nat} {li : Nat → Nat} (h : cho hw (inl li i u) (inl li i v) = true) : va_up (mgF hw t u v li i) i (li i ||| 2 ^ t) = mgF hw t u v li (i + 1) := by
  funext k
  by_cases q : k = i
  · subst q; rw [va_up_self, mgF, if_pos (by omega), if_pos (show mgP hw u v li k = true from h)]
  · rw [va_up_ne _ _ q, mgF, mgF]
    by_cases z : k < i
    · rw [if_pos z, if_pos (show k < i + 1 by omega)]
    · rw [if_neg z, if_neg (show ¬ k < i + 1 by omega)]
theorem mgF_f {hw t u v i : Nat} {li : Nat → Nat} (h : cho hw (inl li i u) (inl li i v) = false) : va_up (mgF hw t u v li i) i (li i &&& (15 - 2 ^ t)) = mgF hw t u v li (i + 1) := by
  funext k
  by_cases q : k = i
  · subst q; rw [va_up_self, mgF, if_pos (by omega), if_neg (by rw [mgP, h]; decide)]
  · rw [va_up_ne _ _ q, mgF, mgF]
    by_cases z : k < i
    · rw [if_pos z, if_pos (show k < i + 1 by omega)]
    · rw [if_neg z, if_neg (show ¬ k < i + 1 by omega)]
theorem iv_mg {n mw nf : Nat} {sg fo L le sc li ba ca : Nat → Nat} (hI : iv n mw nf sg fo L le sc li ba ca) (hw t u v i : Nat) (ht : t < 4) (hi : i ≤ mw) : iv n mw nf sg fo L le sc (mgF hw t u v li i) ba ca := by
  obtain ⟨h1, ⟨hsg, hfo, hL, hle, hsc, hli, hba, hca⟩, hv1, hv2, hv3, hv4, hv5, hv6, hv7⟩ := hI
  refine ⟨h1, ⟨hsg, hfo, hL, hle, hsc, fun k => ?_, hba, hca⟩, hv1, hv2, hv3, hv4, hv5, fun w hw => ⟨?_, (hv6 w hw).2⟩, hv7⟩
  · have hk := hli k
    obtain ⟨-, -, ⟨y, q1, q2, -⟩, ⟨y', q1', q2', -⟩⟩ := tb_lt (li k) (by omega) t ht
    rw [mgF]; split
    · split
      · omega
      · omega
    · exact hk
  · rw [mgF, if_neg (by omega)]; exact (hv6 w hw).1
set_option maxRecDepth 100000 in
theorem kX0_enterN (l : Launch) (dC : Nat → ClassId) (dI : Nat → Nat → Nat) (cI cZ cJ : ClassId) (a : Nat → Nat) (n mw nf : Nat) (sg fo L le sc li ba ca st : Nat → Nat) (t : Nat) (x : Int32) (hI : iv n mw nf sg fo L le sc li ba ca) (ht : t < 4) (he : n = 0 ∨ hbl n sg = true ∨ x < 0 ∨ nI 1000 < x ∨ (wof mw (fit n sg fo L le) = -1 ∧ mw = 250)) : rd l yX0_enter cX0_enter 4 (some .int) 5 108 [.ref (a 0), .int (nI t), .int x] (rB dC dI cI cZ cJ (vX cI cZ a n mw nf sg fo L le sc li ba ca st)) ((-1 : Int32)) := by
  refine rd_ofW RX0 (by decide) rfl (Nat.le_of_ble_eq_true rfl) ?_
  intro p e s m below meth c S hr hlk hB ls hl
  obtain ⟨hP, hK⟩ := hB
  have hl : lv_has ls 4 [(0, .ref (a 0)), (1, .int (nI t)), (2, .int x)] := hl
  obtain ⟨⟨hn, hm, hf⟩, ⟨hsg, hfo, hL, hle, hsc, hli, hba, hca⟩, hv1, hv2, hv3, hv4, hv5, hv6, hv7⟩ := id hI
  refine lv_iload_n S.1 S.2.1 dX0_enter_0 rfl (lv_at hl 1 rfl) ?_
  refine rdv_callS (As := [.int (nI t)]) (rest := []) S (kX0_needList l t ht) tr_blind (fun _ _ _ => trivial) gX0_56 hdX0_needList (by decide) hl.1 rfl (Nat.le_of_ble_eq_true rfl) dX0_enter_1 ⟨Nat.zero_le _, Nat.zero_le _⟩ ?_
  refine lv_aload_n S.1 S.2.1 dX0_enter_4 rfl (lv_at hl 0 rfl) ?_
  refine fX0_signCount (v := .int (nI n)) S hK hP rfl rfl dX0_enter_5 ?_
  refine n_if_eq (x := n) (tgt := 29) S dX0_enter_8 (by decide) (by omega) (fun h8 => ?_) (fun h8 => ?_)
  · refine lv_iconst (v := -1) S.1 S.2.1 dX0_enter_29 (by decide) ?_
    exact rd_ret S hr hlk (rfl) (rfl) dX0_enter_30
  · refine lv_aload_n S.1 S.2.1 dX0_enter_11 rfl (lv_at hl 0 rfl) ?_
    refine rd_callV (C := RX0) (As := []) (rest := []) S (kX0_rowHasBlank l dC dI cI cZ cJ a n mw nf sg fo L le sc li ba ca st hI) rB_blind (fun U hU hW => ⟨by rw [hU]; exact hP, va_K.moved hW.alike hK⟩) (va_recv hK hP (ci := 0) (q0 := 0) rfl rfl) gX0_59 hdX0_rowHasBlank (by decide) hl.1 rfl (Nat.le_of_ble_eq_true rfl) dX0_enter_12 ⟨Nat.zero_le _, Nat.zero_le _⟩ ?_
    refine n_bif_ne (b := hbl n sg) (tgt := 29) S dX0_enter_15 (by decide) (fun h15 => ?_) (fun h15 => ?_)
    · refine lv_iconst (v := -1) S.1 S.2.1 dX0_enter_29 (by decide) ?_
      exact rd_ret S hr hlk (rfl) (rfl) dX0_enter_30
    · refine lv_iload_n S.1 S.2.1 dX0_enter_18 rfl (lv_at hl 2 rfl) ?_
      refine lv_if_lt (tgt := 29) S.1 S.2.1 dX0_enter_19 (by decide) (fun h19 => ?_) (fun h19 => ?_)
      · refine lv_iconst (v := -1) S.1 S.2.1 dX0_enter_29 (by decide) ?_
        exact rd_ret S hr hlk (rfl) (rfl) dX0_enter_30
      · refine lv_iload_n S.1 S.2.1 dX0_enter_22 rfl (lv_at hl 2 rfl) ?_
        refine lv_sipush (v := (nI 1000)) S.1 S.2.1 dX0_enter_23 (by decide) ?_
        refine lv_icmp_le (tgt := 31) S.1 S.2.1 dX0_enter_26 (by decide) (fun h26 => ?_) (fun h26 => ?_)
        · refine lv_aload_n S.1 S.2.1 dX0_enter_31 rfl (lv_at hl 0 rfl) ?_
          refine rd_callV (C := RX0) (As := []) (rest := []) S (kX0_wordOfRow l dC dI cI cZ cJ a n mw nf sg fo L le sc li ba ca st hI) rB_blind (fun U hU hW => ⟨by rw [hU]; exact hP, va_K.moved hW.alike hK⟩) (va_recv hK hP (ci := 0) (q0 := 0) rfl rfl) gX0_63 hdX0_wordOfRow (by decide) hl.1 rfl (Nat.le_of_ble_eq_true rfl) dX0_enter_32 ⟨Nat.zero_le _, Nat.zero_le _⟩ ?_
          refine lv_istore_n (lv' := [(3, .int (wof mw (fit n sg fo L le))), (0, .ref (a 0)), (1, .int (nI t)), (2, .int x)]) S.1 S.2.1 dX0_enter_35 rfl hl (by decide) rfl (fun ls hl => ?_)
          refine lv_iload_n S.1 S.2.1 dX0_enter_36 rfl (lv_at hl 0 rfl) ?_
          refine lv_iconst (v := -1) S.1 S.2.1 dX0_enter_37 (by decide) ?_
          refine lv_icmp_ne (tgt := 58) S.1 S.2.1 dX0_enter_38 (by decide) (fun h38 => ?_) (fun h38 => ?_)
          · exact absurd (show wof mw (fit n sg fo L le) = -1 ∧ mw = 250 by rcases he with q | q | q | q | q; exact absurd q h8; exact absurd q (by rw [h15]; decide); exact absurd q h19; exact absurd h26 (Int32.not_le.mpr q); exact q).1 h38
          · refine lv_aload_n S.1 S.2.1 dX0_enter_41 rfl (lv_at hl 1 rfl) ?_
            refine fX0_wordCount (v := .int (nI mw)) S hK hP rfl rfl dX0_enter_42 ?_
            refine lv_sipush (v := (nI 250)) S.1 S.2.1 dX0_enter_45 (by decide) ?_
            refine n_icmp_lt (x := mw) (y := 250) (tgt := 53) S dX0_enter_48 (by decide) (by omega) (by omega) (fun h48 => ?_) (fun h48 => ?_)
            · exact absurd (show wof mw (fit n sg fo L le) = -1 ∧ mw = 250 by rcases he with q | q | q | q | q; exact absurd q h8; exact absurd q (by rw [h15]; decide); exact absurd q h19; exact absurd h26 (Int32.not_le.mpr q); exact q).2 (by omega)
            · refine lv_iconst (v := -1) S.1 S.2.1 dX0_enter_51 (by decide) ?_
              exact rd_ret S hr hlk (rfl) (rfl) dX0_enter_52
        · refine lv_iconst (v := -1) S.1 S.2.1 dX0_enter_29 (by decide) ?_
          exact rd_ret S hr hlk (rfl) (rfl) dX0_enter_30

set_option maxRecDepth 100000 in
set_option maxHeartbeats 1000000 in
theorem kX0_enterO (l : Launch) (dC : Nat → ClassId) (dI : Nat → Nat → Nat) (cI cZ cJ : ClassId) (a : Nat → Nat) (n mw nf : Nat) (sg fo L le sc li ba ca st : Nat → Nat) (t : Nat) (s0 : Nat) (w : Nat) (hI : iv n mw nf sg fo L le sc li ba ca) (ht : t < 4) (hs : s0 ≤ 1000) (h0 : n ≠ 0) (hb : hbl n sg = false) (hw : w < mw) (hf1 : fit n sg fo L le w = true) (hf2 : ∀ j, j < w → fit n sg fo L le j = false) : wr l yX0_enter cX0_enter 4 (some .int) 5 108 [.ref (a 0), .int (nI t), .int (nI s0)] dC dI cI cZ cJ (vX cI cZ a n mw nf sg fo L le sc li ba ca st) (vX cI cZ a n mw nf sg fo L le (va_up sc w (max (sc w) s0)) (va_up li w (li w ||| 2 ^ t)) ba ca st) (some (.int (nI (w)))) := by
  refine wr_ofW RX0 (by decide) rfl (Nat.le_of_ble_eq_true rfl) ?_
  intro p e s m below meth c S hr hlk hK hP hD hS ls hl
  have hl : lv_has ls 4 [(0, .ref (a 0)), (1, .int (nI t)), (2, .int (nI s0))] := hl
  obtain ⟨⟨hn, hm, hf⟩, ⟨hsg, hfo, hL, hle, hsc, hli, hba, hca⟩, hv1, hv2, hv3, hv4, hv5, hv6, hv7⟩ := id hI
  refine lv_iload_n S.1 S.2.1 dX0_enter_0 rfl (lv_at hl 1 rfl) ?_
  refine rdv_callS (As := [.int (nI t)]) (rest := []) S (kX0_needList l t ht) tr_blind (fun _ _ _ => trivial) gX0_56 hdX0_needList (by decide) hl.1 rfl (Nat.le_of_ble_eq_true rfl) dX0_enter_1 ⟨Nat.zero_le _, Nat.zero_le _⟩ ?_
  refine lv_aload_n S.1 S.2.1 dX0_enter_4 rfl (lv_at hl 0 rfl) ?_
  refine fX0_signCount (v := .int (nI n)) S hK hP rfl rfl dX0_enter_5 ?_
  refine n_if_eq (x := n) (tgt := 29) S dX0_enter_8 (by decide) (by omega) (fun h8 => ?_) (fun h8 => ?_)
  · exact absurd h8 h0
  · refine lv_aload_n S.1 S.2.1 dX0_enter_11 rfl (lv_at hl 0 rfl) ?_
    refine rd_callV (C := RX0) (As := []) (rest := []) S (kX0_rowHasBlank l dC dI cI cZ cJ a n mw nf sg fo L le sc li ba ca st hI) rB_blind (fun U hU hW => ⟨by rw [hU]; exact hP, va_K.moved hW.alike hK⟩) (va_recv hK hP (ci := 0) (q0 := 0) rfl rfl) gX0_59 hdX0_rowHasBlank (by decide) hl.1 rfl (Nat.le_of_ble_eq_true rfl) dX0_enter_12 ⟨Nat.zero_le _, Nat.zero_le _⟩ ?_
    refine n_bif_ne (b := hbl n sg) (tgt := 29) S dX0_enter_15 (by decide) (fun h15 => ?_) (fun h15 => ?_)
    · exact absurd h15 (by rw [hb]; decide)
    · refine lv_iload_n S.1 S.2.1 dX0_enter_18 rfl (lv_at hl 2 rfl) ?_
      refine n_if_lt (x := s0) (tgt := 29) S dX0_enter_19 (by decide) (by omega) ?_
      refine lv_iload_n S.1 S.2.1 dX0_enter_22 rfl (lv_at hl 2 rfl) ?_
      refine lv_sipush (v := (nI 1000)) S.1 S.2.1 dX0_enter_23 (by decide) ?_
      refine n_icmp_le (x := s0) (y := 1000) (tgt := 31) S dX0_enter_26 (by decide) (by omega) (by omega) (fun h26 => ?_) (fun h26 => ?_)
      · refine lv_aload_n S.1 S.2.1 dX0_enter_31 rfl (lv_at hl 0 rfl) ?_
        refine rd_callV (C := RX0) (As := []) (rest := []) S (kX0_wordOfRow l dC dI cI cZ cJ a n mw nf sg fo L le sc li ba ca st hI) rB_blind (fun U hU hW => ⟨by rw [hU]; exact hP, va_K.moved hW.alike hK⟩) (va_recv hK hP (ci := 0) (q0 := 0) rfl rfl) gX0_63 hdX0_wordOfRow (by decide) hl.1 rfl (Nat.le_of_ble_eq_true rfl) dX0_enter_32 ⟨Nat.zero_le _, Nat.zero_le _⟩ ?_
        rw [wof_at hw hf2 hf1]
        refine lv_istore_n (lv' := [(3, .int (nI w)), (0, .ref (a 0)), (1, .int (nI t)), (2, .int (nI s0))]) S.1 S.2.1 dX0_enter_35 rfl hl (by decide) rfl (fun ls hl => ?_)
        refine lv_iload_n S.1 S.2.1 dX0_enter_36 rfl (lv_at hl 0 rfl) ?_
        refine lv_iconst (v := -1) S.1 S.2.1 dX0_enter_37 (by decide) ?_
        refine lv_icmp_ne (tgt := 58) S.1 S.2.1 dX0_enter_38 (by decide) (fun h38 => ?_) (fun h38 => ?_)
        · refine lv_aload_n S.1 S.2.1 dX0_enter_58 rfl (lv_at hl 1 rfl) ?_
          refine fX0_wordListBits (v := .ref (a 6)) S hK hP rfl rfl dX0_enter_59 ?_
          refine lv_iload_n S.1 S.2.1 dX0_enter_62 rfl (lv_at hl 0 rfl) ?_
          refine lv_dup2_11 S.1 S.2.1 dX0_enter_63 rfl rfl ?_
          refine n_iald S hK hP 6 0 rfl rfl dX0_enter_64 (j := w) (by decide) (by omega) ?_
          have b64 := hli w
          refine lv_iconst (v := (nI 1)) S.1 S.2.1 dX0_enter_65 (by decide) ?_
          refine lv_iload_n S.1 S.2.1 dX0_enter_66 rfl (lv_at hl 2 rfl) ?_
          refine lv_ishl S.1 S.2.1 dX0_enter_67 ?_
          refine lv_ior S.1 S.2.1 dX0_enter_68 ?_
          have hbb : nI (li w) ||| (nI 1 <<< (nI t &&& 31)) = nI (li w ||| 2 ^ t) := by obtain ⟨y, q1, q2, q3⟩ := (tb_lt (li w) (by omega) t ht).2.2.1; rw [← q2]; exact q3
          rw [hbb]
          refine n_iast S hK hP hD hS 6 0 rfl rfl dX0_enter_69 (j := w) (x := li w ||| 2 ^ t) (by decide) (by omega) (fun H locs hP hD hS => ?_)
          have hP : va_P (dC, dI) vcl (vX cI cZ a n mw nf sg fo L le sc (va_up li w (li w ||| 2 ^ t)) ba ca st) H := hP
          have hD : va_D (wF (vX cI cZ a n mw nf sg fo L le sc li ba ca st)) (vX cI cZ a n mw nf sg fo L le sc (va_up li w (li w ||| 2 ^ t)) ba ca st) := hD
          refine lv_aload_n S.1 S.2.1 dX0_enter_70 rfl (lv_at hl 1 rfl) ?_
          refine fX0_wordScores (v := .ref (a 5)) S hK hP rfl rfl dX0_enter_71 ?_
          refine lv_iload_n S.1 S.2.1 dX0_enter_74 rfl (lv_at hl 0 rfl) ?_
          refine lv_aload_n S.1 S.2.1 dX0_enter_75 rfl (lv_at hl 1 rfl) ?_
          refine fX0_wordScores (v := .ref (a 5)) S hK hP rfl rfl dX0_enter_76 ?_
          refine lv_iload_n S.1 S.2.1 dX0_enter_79 rfl (lv_at hl 0 rfl) ?_
          refine n_iald S hK hP 5 0 rfl rfl dX0_enter_80 (j := w) (by decide) (by omega) ?_
          have b80 := hsc w
          refine lv_iload_n S.1 S.2.1 dX0_enter_81 rfl (lv_at hl 3 rfl) ?_
          refine n_max (x := sc w) (y := s0) S hl.1 (by decide) (Nat.le_of_ble_eq_true rfl) ⟨Nat.zero_le _, Nat.zero_le _⟩ (by omega) (by omega) dX0_enter_82 ?_
          refine n_iast S hK hP hD hS 5 0 rfl rfl dX0_enter_85 (j := w) (x := max (sc w) s0) (by decide) (by omega) (fun H locs hP hD hS => ?_)
          have hP : va_P (dC, dI) vcl (vX cI cZ a n mw nf sg fo L le (va_up sc w (max (sc w) s0)) (va_up li w (li w ||| 2 ^ t)) ba ca st) H := hP
          have hD : va_D (wF (vX cI cZ a n mw nf sg fo L le sc li ba ca st)) (vX cI cZ a n mw nf sg fo L le (va_up sc w (max (sc w) s0)) (va_up li w (li w ||| 2 ^ t)) ba ca st) := hD
          refine lv_iload_n S.1 S.2.1 dX0_enter_86 rfl (lv_at hl 0 rfl) ?_
          exact wr_ret S hr hlk (rfl) (rfl) hP (rfl) hS dX0_enter_87
        · exact absurd h38 (nI_m1 (by omega))
      · exact absurd hs (by omega)

set_option maxRecDepth 100000 in
set_option maxHeartbeats 1000000 in
theorem kX0_enterT (l : Launch) (dC : Nat → ClassId) (dI : Nat → Nat → Nat) (cI cZ cJ : ClassId) (a : Nat → Nat) (n mw nf : Nat) (sg fo L le sc li ba ca st : Nat → Nat) (t : Nat) (s0 : Nat) (hI : iv n mw nf sg fo L le sc li ba ca) (ht : t < 4) (hs : s0 ≤ 1000) (h0 : n ≠ 0) (hb : hbl n sg = false) (hf2 : ∀ j, j < mw → fit n sg fo L le j = false) (hmw : mw < 250) : wr l yX0_enter cX0_enter 4 (some .int) 5 108 [.ref (a 0), .int (nI t), .int (nI s0)] dC dI cI cZ cJ (vX cI cZ a n mw nf sg fo L le sc li ba ca st) (vX cI cZ a n (mw + 1) nf sg fo (adL n mw n sg fo L) (va_up le mw n) (va_up sc mw s0) (va_up li mw (2 ^ t)) ba ca st) (some (.int (nI (mw)))) := by
  refine wr_ofW RX0 (by decide) rfl (Nat.le_of_ble_eq_true rfl) ?_
  intro p e s m below meth c S hr hlk hK hP hD hS ls hl
  have hl : lv_has ls 4 [(0, .ref (a 0)), (1, .int (nI t)), (2, .int (nI s0))] := hl
  obtain ⟨⟨hn, hm, hf⟩, ⟨hsg, hfo, hL, hle, hsc, hli, hba, hca⟩, hv1, hv2, hv3, hv4, hv5, hv6, hv7⟩ := id hI
  refine lv_iload_n S.1 S.2.1 dX0_enter_0 rfl (lv_at hl 1 rfl) ?_
  refine rdv_callS (As := [.int (nI t)]) (rest := []) S (kX0_needList l t ht) tr_blind (fun _ _ _ => trivial) gX0_56 hdX0_needList (by decide) hl.1 rfl (Nat.le_of_ble_eq_true rfl) dX0_enter_1 ⟨Nat.zero_le _, Nat.zero_le _⟩ ?_
  refine lv_aload_n S.1 S.2.1 dX0_enter_4 rfl (lv_at hl 0 rfl) ?_
  refine fX0_signCount (v := .int (nI n)) S hK hP rfl rfl dX0_enter_5 ?_
  refine n_if_eq (x := n) (tgt := 29) S dX0_enter_8 (by decide) (by omega) (fun h8 => ?_) (fun h8 => ?_)
  · exact absurd h8 h0
  · refine lv_aload_n S.1 S.2.1 dX0_enter_11 rfl (lv_at hl 0 rfl) ?_
    refine rd_callV (C := RX0) (As := []) (rest := []) S (kX0_rowHasBlank l dC dI cI cZ cJ a n mw nf sg fo L le sc li ba ca st hI) rB_blind (fun U hU hW => ⟨by rw [hU]; exact hP, va_K.moved hW.alike hK⟩) (va_recv hK hP (ci := 0) (q0 := 0) rfl rfl) gX0_59 hdX0_rowHasBlank (by decide) hl.1 rfl (Nat.le_of_ble_eq_true rfl) dX0_enter_12 ⟨Nat.zero_le _, Nat.zero_le _⟩ ?_
    refine n_bif_ne (b := hbl n sg) (tgt := 29) S dX0_enter_15 (by decide) (fun h15 => ?_) (fun h15 => ?_)
    · exact absurd h15 (by rw [hb]; decide)
    · refine lv_iload_n S.1 S.2.1 dX0_enter_18 rfl (lv_at hl 2 rfl) ?_
      refine n_if_lt (x := s0) (tgt := 29) S dX0_enter_19 (by decide) (by omega) ?_
      refine lv_iload_n S.1 S.2.1 dX0_enter_22 rfl (lv_at hl 2 rfl) ?_
      refine lv_sipush (v := (nI 1000)) S.1 S.2.1 dX0_enter_23 (by decide) ?_
      refine n_icmp_le (x := s0) (y := 1000) (tgt := 31) S dX0_enter_26 (by decide) (by omega) (by omega) (fun h26 => ?_) (fun h26 => ?_)
      · refine lv_aload_n S.1 S.2.1 dX0_enter_31 rfl (lv_at hl 0 rfl) ?_
        refine rd_callV (C := RX0) (As := []) (rest := []) S (kX0_wordOfRow l dC dI cI cZ cJ a n mw nf sg fo L le sc li ba ca st hI) rB_blind (fun U hU hW => ⟨by rw [hU]; exact hP, va_K.moved hW.alike hK⟩) (va_recv hK hP (ci := 0) (q0 := 0) rfl rfl) gX0_63 hdX0_wordOfRow (by decide) hl.1 rfl (Nat.le_of_ble_eq_true rfl) dX0_enter_32 ⟨Nat.zero_le _, Nat.zero_le _⟩ ?_
        rw [wof_no hf2]
        refine lv_istore_n (lv' := [(3, .int (-1)), (0, .ref (a 0)), (1, .int (nI t)), (2, .int (nI s0))]) S.1 S.2.1 dX0_enter_35 rfl hl (by decide) rfl (fun ls hl => ?_)
        refine lv_iload_n S.1 S.2.1 dX0_enter_36 rfl (lv_at hl 0 rfl) ?_
        refine lv_iconst (v := -1) S.1 S.2.1 dX0_enter_37 (by decide) ?_
        refine lv_icmp_ne (tgt := 58) S.1 S.2.1 dX0_enter_38 (by decide) (fun h38 => ?_) (fun h38 => ?_)
        · exact absurd rfl h38
        · refine lv_aload_n S.1 S.2.1 dX0_enter_41 rfl (lv_at hl 1 rfl) ?_
          refine fX0_wordCount (v := .int (nI mw)) S hK hP rfl rfl dX0_enter_42 ?_
          refine lv_sipush (v := (nI 250)) S.1 S.2.1 dX0_enter_45 (by decide) ?_
          refine n_icmp_lt (x := mw) (y := 250) (tgt := 53) S dX0_enter_48 (by decide) (by omega) (by omega) (fun h48 => ?_) (fun h48 => ?_)
          · refine lv_aload_n S.1 S.2.1 dX0_enter_53 rfl (lv_at hl 1 rfl) ?_
            refine wr_callV (C := RX0) (As := []) (rest := []) S (kX0_addWordOfRow l dC dI cI cZ cJ a n mw nf sg fo L le sc li ba ca st hI hmw) hK [] [] hP hD hS rfl (va_recv hK hP (ci := 0) (q0 := 0) rfl rfl) gX0_67 hdX0_addWordOfRow (by decide) hl.1 rfl (Nat.le_of_ble_eq_true rfl) dX0_enter_54 ⟨Nat.zero_le _, Nat.zero_le _⟩ (fun H locs hP hD hS => ?_)
            have hP : va_P (dC, dI) vcl (vX cI cZ a n (mw + 1) nf sg fo (adL n mw n sg fo L) (va_up le mw n) sc li ba ca st) H := hP
            have hD : va_D (wF (vX cI cZ a n mw nf sg fo L le sc li ba ca st)) (vX cI cZ a n (mw + 1) nf sg fo (adL n mw n sg fo L) (va_up le mw n) sc li ba ca st) := hD
            refine lv_istore_n (lv' := [(3, .int (nI mw)), (0, .ref (a 0)), (1, .int (nI t)), (2, .int (nI s0))]) S.1 S.2.1 dX0_enter_57 rfl hl (by decide) rfl (fun ls hl => ?_)
            refine lv_aload_n S.1 S.2.1 dX0_enter_58 rfl (lv_at hl 1 rfl) ?_
            refine fX0_wordListBits (v := .ref (a 6)) S hK hP rfl rfl dX0_enter_59 ?_
            refine lv_iload_n S.1 S.2.1 dX0_enter_62 rfl (lv_at hl 0 rfl) ?_
            refine lv_dup2_11 S.1 S.2.1 dX0_enter_63 rfl rfl ?_
            refine n_iald S hK hP 6 0 rfl rfl dX0_enter_64 (j := mw) (by decide) (by omega) ?_
            have b64 := hli mw
            refine lv_iconst (v := (nI 1)) S.1 S.2.1 dX0_enter_65 (by decide) ?_
            refine lv_iload_n S.1 S.2.1 dX0_enter_66 rfl (lv_at hl 2 rfl) ?_
            refine lv_ishl S.1 S.2.1 dX0_enter_67 ?_
            refine lv_ior S.1 S.2.1 dX0_enter_68 ?_
            have hbb : nI (li mw) ||| (nI 1 <<< (nI t &&& 31)) = nI (li mw ||| 2 ^ t) := by obtain ⟨y, q1, q2, q3⟩ := (tb_lt (li mw) (by omega) t ht).2.2.1; rw [← q2]; exact q3
            rw [hbb]
            refine n_iast S hK hP hD hS 6 0 rfl rfl dX0_enter_69 (j := mw) (x := li mw ||| 2 ^ t) (by decide) (by omega) (fun H locs hP hD hS => ?_)
            have hP : va_P (dC, dI) vcl (vX cI cZ a n (mw + 1) nf sg fo (adL n mw n sg fo L) (va_up le mw n) sc (va_up li mw (li mw ||| 2 ^ t)) ba ca st) H := hP
            have hD : va_D (wF (vX cI cZ a n mw nf sg fo L le sc li ba ca st)) (vX cI cZ a n (mw + 1) nf sg fo (adL n mw n sg fo L) (va_up le mw n) sc (va_up li mw (li mw ||| 2 ^ t)) ba ca st) := hD
            refine lv_aload_n S.1 S.2.1 dX0_enter_70 rfl (lv_at hl 1 rfl) ?_
            refine fX0_wordScores (v := .ref (a 5)) S hK hP rfl rfl dX0_enter_71 ?_
            refine lv_iload_n S.1 S.2.1 dX0_enter_74 rfl (lv_at hl 0 rfl) ?_
            refine lv_aload_n S.1 S.2.1 dX0_enter_75 rfl (lv_at hl 1 rfl) ?_
            refine fX0_wordScores (v := .ref (a 5)) S hK hP rfl rfl dX0_enter_76 ?_
            refine lv_iload_n S.1 S.2.1 dX0_enter_79 rfl (lv_at hl 0 rfl) ?_
            refine n_iald S hK hP 5 0 rfl rfl dX0_enter_80 (j := mw) (by decide) (by omega) ?_
            have b80 := hsc mw
            refine lv_iload_n S.1 S.2.1 dX0_enter_81 rfl (lv_at hl 3 rfl) ?_
            refine n_max (x := sc mw) (y := s0) S hl.1 (by decide) (Nat.le_of_ble_eq_true rfl) ⟨Nat.zero_le _, Nat.zero_le _⟩ (by omega) (by omega) dX0_enter_82 ?_
            refine n_iast S hK hP hD hS 5 0 rfl rfl dX0_enter_85 (j := mw) (x := max (sc mw) s0) (by decide) (by omega) (fun H locs hP hD hS => ?_)
            have hP : va_P (dC, dI) vcl (vX cI cZ a n (mw + 1) nf sg fo (adL n mw n sg fo L) (va_up le mw n) (va_up sc mw (max (sc mw) s0)) (va_up li mw (li mw ||| 2 ^ t)) ba ca st) H := hP
            have hD : va_D (wF (vX cI cZ a n mw nf sg fo L le sc li ba ca st)) (vX cI cZ a n (mw + 1) nf sg fo (adL n mw n sg fo L) (va_up le mw n) (va_up sc mw (max (sc mw) s0)) (va_up li mw (li mw ||| 2 ^ t)) ba ca st) := hD
            refine lv_iload_n S.1 S.2.1 dX0_enter_86 rfl (lv_at hl 0 rfl) ?_
            exact wr_ret S hr hlk (rfl) (rfl) hP (by rw [(hv6 mw (Nat.le_refl _)).1, (hv6 mw (Nat.le_refl _)).2.1, Nat.zero_or, Nat.zero_max]) hS dX0_enter_87
          · exact absurd hmw (by omega)
      · exact absurd hs (by omega)

set_option maxRecDepth 100000 in
set_option maxHeartbeats 1000000 in
theorem lX0_bar_4 (l : Launch) (dC : Nat → ClassId) (dI : Nat → Nat → Nat) (cI cZ cJ : ClassId) (a : Nat → Nat) (n mw nf : Nat) (sg fo L le sc li ba ca st : Nat → Nat) (on : Bool) (hI : iv n mw nf sg fo L le sc li ba ca)   {p : Program} {e : Env} {s : State} {m : MethodId} {below : List Frame} {meth : Method} {c : Code}(S : CallFix p m c cX0_bar 4 s ([.ref (a 0), .int (nI on.toNat)] : List Value).toArray tbG RX0) (hr : meth.sig.returnType = (some .int)) (hlk : meth.locks = false) (hK : va_K (dC, dI) vcl (vty cI cZ cJ) s) :
    ∀ (fuel : Nat) (i : Nat) (k : Nat), mw - i < fuel → i ≤ mw → k = cnt (brP on (fit n sg fo L le) ba) i → ∀ (H : Heap) (locs : List Loc), va_P (dC, dI) vcl (vX cI cZ a n mw nf sg fo L le sc li (brF on (fit n sg fo L le) ba i) ca st) H → va_D (wF (vX cI cZ a n mw nf sg fo L le sc li ba ca st)) (vX cI cZ a n mw nf sg fo L le sc li (brF on (fit n sg fo L le) ba i) ca st) → va_S (wF (vX cI cZ a n mw nf sg fo L le sc li ba ca st)) s.heap H locs → ∀ ls : Array Slot, lv_has ls 4 [(0, .ref (a 0)), (1, .int (nI (on).toNat)), (2, .int (nI k)), (3, .int (nI i))] → W p l e ({ frames := 4, cells := 0, slots := 0, locals := 87 } : Room) s m ([.ref (a 0), .int (nI on.toNat)] : List Value).toArray below meth c H locs 0 0 (MQ below (Qw dC dI (vX cI cZ a n mw nf sg fo L le sc li ba ca st) (vX cI cZ a n mw nf sg fo L le sc li (brF on (fit n sg fo L le) ba mw) ca st) (some (.int (nI (cnt (brP on (fit n sg fo L le) ba) mw))))) ([.ref (a 0), .int (nI on.toNat)] : List Value).toArray s 0 0 (wF (vX cI cZ a n mw nf sg fo L le sc li ba ca st))) (F0 m 4 ls []) := by
  obtain ⟨⟨hn, hm, hf⟩, ⟨hsg, hfo, hL, hle, hsc, hli, hba, hca⟩, hv1, hv2, hv3, hv4, hv5, hv6, hv7⟩ := id hI
  intro fuel
  induction fuel with
  | zero =>
    intro i k hq
    exact absurd hq (Nat.not_lt_zero _)
  | succ fuel ih =>
    intro i k hq hi hk H locs hP hD hS ls hl
    have hki := cnt_le (brP on (fit n sg fo L le) ba) i
    have hI2 := iv_ba hI on (fit n sg fo L le) i hi
    refine lv_iload_n S.1 S.2.1 dX0_bar_4 rfl (lv_at hl 3 rfl) ?_
    refine lv_aload_n S.1 S.2.1 dX0_bar_5 rfl (lv_at hl 0 rfl) ?_
    refine fX0_wordCount (v := .int (nI mw)) S hK hP rfl rfl dX0_bar_6 ?_
    refine n_icmp_ge (x := i) (y := mw) (tgt := 46) S dX0_bar_9 (by decide) (by omega) (by omega) (fun h9 => ?_) (fun h9 => ?_)
    · refine lv_iload_n S.1 S.2.1 dX0_bar_46 rfl (lv_at hl 2 rfl) ?_
      exact wr_ret S hr hlk (rfl) (by rw [hk, show i = mw by omega]) hP (by rw [show i = mw by omega]) hS dX0_bar_47
    · refine lv_aload_n S.1 S.2.1 dX0_bar_12 rfl (lv_at hl 0 rfl) ?_
      refine fX0_wordBarred (v := .ref (a 7)) S hK hP rfl rfl dX0_bar_13 ?_
      refine lv_iload_n S.1 S.2.1 dX0_bar_16 rfl (lv_at hl 3 rfl) ?_
      refine n_zald S hK hP 7 1 rfl rfl dX0_bar_17 (j := i) (by decide) (by omega) ?_
      rw [brF_at]
      have b17 := hba i
      refine lv_iload_n S.1 S.2.1 dX0_bar_18 rfl (lv_at hl 1 rfl) ?_
      refine n_icmp_eq (x := ba i) (y := (on).toNat) (tgt := 40) S dX0_bar_19 (by decide) (by omega) (by cases on <;> decide) (fun h19 => ?_) (fun h19 => ?_)
      · refine n_iinc (lv' := [(3, .int (nI (i + 1))), (0, .ref (a 0)), (1, .int (nI (on).toNat)), (2, .int (nI k))]) (x := i) (k := 3) S dX0_bar_40 hl rfl (by decide) rfl (fun ls hl => ?_)
        refine lv_goto (tgt := 4) S.1 S.2.1 dX0_bar_43 (by decide) ?_
        have e0 : vX cI cZ a n mw nf sg fo L le sc li (brF on (fit n sg fo L le) ba i) ca st = vX cI cZ a n mw nf sg fo L le sc li (brF on (fit n sg fo L le) ba (i + 1)) ca st := (by first | rw [brF_t h27] | rw [brF_e h19] | rw [brF_f h27])
        exact ih (i + 1) k (by omega) (by omega) (by rw [cnt, ← hk, brP]; first | (rw [decide_eq_false (Classical.not_not.mpr h19), Bool.and_false]; rfl) | (rw [h27, decide_eq_true h19]; rfl) | (rw [h27]; rfl)) _ _ (by rw [← e0]; exact hP) (by rw [← e0]; exact hD) hS ls (lv_sub hl [1, 2, 3, 0] rfl)
      · refine lv_aload_n S.1 S.2.1 dX0_bar_22 rfl (lv_at hl 0 rfl) ?_
        refine lv_iload_n S.1 S.2.1 dX0_bar_23 rfl (lv_at hl 3 rfl) ?_
        refine rd_callV (C := RX0) (As := [.int (nI i)]) (rest := []) S (kX0_fits l dC dI cI cZ cJ a n mw nf sg fo L le sc li (brF on (fit n sg fo L le) ba i) ca st i hI2 (by omega)) rB_blind (fun U hU hW => ⟨by rw [hU]; exact hP, va_K.moved hW.alike hK⟩) (va_recv hK hP (ci := 0) (q0 := 0) rfl rfl) gX0_76 hdX0_fits (by decide) hl.1 rfl (Nat.le_of_ble_eq_true rfl) dX0_bar_24 ⟨Nat.zero_le _, Nat.zero_le _⟩ ?_
        refine n_bif_eq (b := fit n sg fo L le i) (tgt := 40) S dX0_bar_27 (by decide) (fun h27 => ?_) (fun h27 => ?_)
        · refine n_iinc (lv' := [(3, .int (nI (i + 1))), (0, .ref (a 0)), (1, .int (nI (on).toNat)), (2, .int (nI k))]) (x := i) (k := 3) S dX0_bar_40 hl rfl (by decide) rfl (fun ls hl => ?_)
          refine lv_goto (tgt := 4) S.1 S.2.1 dX0_bar_43 (by decide) ?_
          have e0 : vX cI cZ a n mw nf sg fo L le sc li (brF on (fit n sg fo L le) ba i) ca st = vX cI cZ a n mw nf sg fo L le sc li (brF on (fit n sg fo L le) ba (i + 1)) ca st := (by first | rw [brF_t h27] | rw [brF_e h19] | rw [brF_f h27])
          exact ih (i + 1) k (by omega) (by omega) (by rw [cnt, ← hk, brP]; first | (rw [decide_eq_false (Classical.not_not.mpr h19), Bool.and_false]; rfl) | (rw [h27, decide_eq_true h19]; rfl) | (rw [h27]; rfl)) _ _ (by rw [← e0]; exact hP) (by rw [← e0]; exact hD) hS ls (lv_sub hl [1, 2, 3, 0] rfl)
        · refine lv_aload_n S.1 S.2.1 dX0_bar_30 rfl (lv_at hl 0 rfl) ?_
          refine fX0_wordBarred (v := .ref (a 7)) S hK hP rfl rfl dX0_bar_31 ?_
          refine lv_iload_n S.1 S.2.1 dX0_bar_34 rfl (lv_at hl 3 rfl) ?_
          refine lv_iload_n S.1 S.2.1 dX0_bar_35 rfl (lv_at hl 1 rfl) ?_
          refine n_zast S hK hP hD hS 7 1 rfl rfl dX0_bar_36 (j := i) (x := (on).toNat) (by decide) (by omega) (by cases on <;> decide) (fun H locs hP hD hS => ?_)
          have hP : va_P (dC, dI) vcl (vX cI cZ a n mw nf sg fo L le sc li (va_up (brF on (fit n sg fo L le) ba i) i ((on).toNat)) ca st) H := hP
          have hD : va_D (wF (vX cI cZ a n mw nf sg fo L le sc li ba ca st)) (vX cI cZ a n mw nf sg fo L le sc li (va_up (brF on (fit n sg fo L le) ba i) i ((on).toNat)) ca st) := hD
          refine n_iinc (lv' := [(2, .int (nI (k + 1))), (0, .ref (a 0)), (1, .int (nI (on).toNat)), (3, .int (nI i))]) (x := k) (k := 2) S dX0_bar_37 hl rfl (by decide) rfl (fun ls hl => ?_)
          refine n_iinc (lv' := [(3, .int (nI (i + 1))), (2, .int (nI (k + 1))), (0, .ref (a 0)), (1, .int (nI (on).toNat))]) (x := i) (k := 3) S dX0_bar_40 hl rfl (by decide) rfl (fun ls hl => ?_)
          refine lv_goto (tgt := 4) S.1 S.2.1 dX0_bar_43 (by decide) ?_
          have e0 : vX cI cZ a n mw nf sg fo L le sc li (va_up (brF on (fit n sg fo L le) ba i) i ((on).toNat)) ca st = vX cI cZ a n mw nf sg fo L le sc li (brF on (fit n sg fo L le) ba (i + 1)) ca st := (by first | rw [brF_t h27] | rw [brF_e h19] | rw [brF_f h27])
          exact ih (i + 1) (k + 1) (by omega) (by omega) (by rw [cnt, ← hk, brP]; first | (rw [decide_eq_false (Classical.not_not.mpr h19), Bool.and_false]; rfl) | (rw [h27, decide_eq_true h19]; rfl) | (rw [h27]; rfl)) _ _ (by rw [← e0]; exact hP) (by rw [← e0]; exact hD) hS ls (lv_sub hl [2, 3, 1, 0] rfl)
set_option maxRecDepth 100000 in
set_option maxHeartbeats 1000000 in
theorem kX0_bar (l : Launch) (dC : Nat → ClassId) (dI : Nat → Nat → Nat) (cI cZ cJ : ClassId) (a : Nat → Nat) (n mw nf : Nat) (sg fo L le sc li ba ca st : Nat → Nat) (on : Bool) (hI : iv n mw nf sg fo L le sc li ba ca) : wr l yX0_bar cX0_bar 4 (some .int) 4 87 [.ref (a 0), .int (nI on.toNat)] dC dI cI cZ cJ (vX cI cZ a n mw nf sg fo L le sc li ba ca st) (vX cI cZ a n mw nf sg fo L le sc li (brF on (fit n sg fo L le) ba mw) ca st) (some (.int (nI (cnt (brP on (fit n sg fo L le) ba) mw)))) := by
  refine wr_ofW RX0 (by decide) rfl (Nat.le_of_ble_eq_true rfl) ?_
  intro p e s m below meth c S hr hlk hK hP hD hS ls hl
  have hl : lv_has ls 4 [(0, .ref (a 0)), (1, .int (nI (on).toNat))] := hl
  obtain ⟨⟨hn, hm, hf⟩, ⟨hsg, hfo, hL, hle, hsc, hli, hba, hca⟩, hv1, hv2, hv3, hv4, hv5, hv6, hv7⟩ := id hI
  refine lv_iconst (v := (nI 0)) S.1 S.2.1 dX0_bar_0 (by decide) ?_
  refine lv_istore_n (lv' := [(2, .int (nI 0)), (0, .ref (a 0)), (1, .int (nI (on).toNat))]) S.1 S.2.1 dX0_bar_1 rfl hl (by decide) rfl (fun ls hl => ?_)
  refine lv_iconst (v := (nI 0)) S.1 S.2.1 dX0_bar_2 (by decide) ?_
  refine lv_istore_n (lv' := [(3, .int (nI 0)), (2, .int (nI 0)), (0, .ref (a 0)), (1, .int (nI (on).toNat))]) S.1 S.2.1 dX0_bar_3 rfl hl (by decide) rfl (fun ls hl => ?_)
  have e0 : vX cI cZ a n mw nf sg fo L le sc li ba ca st = vX cI cZ a n mw nf sg fo L le sc li (brF on (fit n sg fo L le) ba 0) ca st := (by rw [brF_0])
  exact lX0_bar_4 l dC dI cI cZ cJ a n mw nf sg fo L le sc li ba ca st on hI S hr hlk hK _ 0 0 (Nat.lt_succ_self _) (by omega) rfl _ _ (by rw [← e0]; exact hP) (by rw [← e0]; exact hD) hS ls (lv_sub hl [2, 3, 1, 0] rfl)

set_option maxRecDepth 100000 in
theorem kX0_mergeN (l : Launch) (dC : Nat → ClassId) (dI : Nat → Nat → Nat) (cI cZ cJ : ClassId) (a : Nat → Nat) (n mw nf : Nat) (sg fo L le sc li ba ca st : Nat → Nat) (x : Int32) (t : Nat) (u : Nat) (v : Nat) (hI : iv n mw nf sg fo L le sc li ba ca) (ht : t < 4) (hu : u < 4) (hv : v < 4) (hx : ¬ x = nI 0 ∧ ¬ x = nI 1 ∧ ¬ x = nI 2) : rd l yX0_merge cX0_merge 7 (some .int) 1 20 [.ref (a 0), .int x, .int (nI t), .int (nI u), .int (nI v)] (rB dC dI cI cZ cJ (vX cI cZ a n mw nf sg fo L le sc li ba ca st)) ((-1 : Int32)) := by
  refine rd_ofW RX0 (by decide) rfl (Nat.le_of_ble_eq_true rfl) ?_
  intro p e s m below meth c S hr hlk hB ls hl
  obtain ⟨hP, hK⟩ := hB
  have hl : lv_has ls 7 [(0, .ref (a 0)), (1, .int x), (2, .int (nI t)), (3, .int (nI u)), (4, .int (nI v))] := hl
  obtain ⟨⟨hn, hm, hf⟩, ⟨hsg, hfo, hL, hle, hsc, hli, hba, hca⟩, hv1, hv2, hv3, hv4, hv5, hv6, hv7⟩ := id hI
  refine lv_iload_n S.1 S.2.1 dX0_merge_0 rfl (lv_at hl 2 rfl) ?_
  refine rdv_callS (As := [.int (nI t)]) (rest := []) S (kX0_needList l t ht) tr_blind (fun _ _ _ => trivial) gX0_56 hdX0_needList (by decide) hl.1 rfl (Nat.le_of_ble_eq_true rfl) dX0_merge_1 ⟨Nat.zero_le _, Nat.zero_le _⟩ ?_
  refine lv_iload_n S.1 S.2.1 dX0_merge_4 rfl (lv_at hl 3 rfl) ?_
  refine rdv_callS (As := [.int (nI u)]) (rest := []) S (kX0_needList l u hu) tr_blind (fun _ _ _ => trivial) gX0_56 hdX0_needList (by decide) hl.1 rfl (Nat.le_of_ble_eq_true rfl) dX0_merge_5 ⟨Nat.zero_le _, Nat.zero_le _⟩ ?_
  refine lv_iload S.1 S.2.1 dX0_merge_8 (lv_at hl 4 rfl) ?_
  refine rdv_callS (As := [.int (nI v)]) (rest := []) S (kX0_needList l v hv) tr_blind (fun _ _ _ => trivial) gX0_56 hdX0_needList (by decide) hl.1 rfl (Nat.le_of_ble_eq_true rfl) dX0_merge_10 ⟨Nat.zero_le _, Nat.zero_le _⟩ ?_
  refine lv_iload_n S.1 S.2.1 dX0_merge_13 rfl (lv_at hl 1 rfl) ?_
  refine lv_if_eq (tgt := 29) S.1 S.2.1 dX0_merge_14 (by decide) (fun h14 => ?_) (fun h14 => ?_)
  · exact absurd h14 hx.1
  · refine lv_iload_n S.1 S.2.1 dX0_merge_17 rfl (lv_at hl 1 rfl) ?_
    refine lv_iconst (v := (nI 1)) S.1 S.2.1 dX0_merge_18 (by decide) ?_
    refine lv_icmp_eq (tgt := 29) S.1 S.2.1 dX0_merge_19 (by decide) (fun h19 => ?_) (fun h19 => ?_)
    · exact absurd h19 hx.2.1
    · refine lv_iload_n S.1 S.2.1 dX0_merge_22 rfl (lv_at hl 1 rfl) ?_
      refine lv_iconst (v := (nI 2)) S.1 S.2.1 dX0_merge_23 (by decide) ?_
      refine lv_icmp_eq (tgt := 29) S.1 S.2.1 dX0_merge_24 (by decide) (fun h24 => ?_) (fun h24 => ?_)
      · exact absurd h24 hx.2.2
      · refine lv_iconst (v := -1) S.1 S.2.1 dX0_merge_27 (by decide) ?_
        exact rd_ret S hr hlk (rfl) (rfl) dX0_merge_28

set_option maxRecDepth 100000 in
set_option maxHeartbeats 1000000 in
theorem lX0_merge_35 (l : Launch) (dC : Nat → ClassId) (dI : Nat → Nat → Nat) (cI cZ cJ : ClassId) (a : Nat → Nat) (n mw nf : Nat) (sg fo L le sc li ba ca st : Nat → Nat) (hw : Nat) (t : Nat) (u : Nat) (v : Nat) (hI : iv n mw nf sg fo L le sc li ba ca) (hh : hw < 3) (ht : t < 4) (hu : u < 4) (hv : v < 4)   {p : Program} {e : Env} {s : State} {m : MethodId} {below : List Frame} {meth : Method} {c : Code}(S : CallFix p m c cX0_merge 7 s ([.ref (a 0), .int (nI hw), .int (nI t), .int (nI u), .int (nI v)] : List Value).toArray tbG RX0) (hr : meth.sig.returnType = (some .int)) (hlk : meth.locks = false) (hK : va_K (dC, dI) vcl (vty cI cZ cJ) s) :
    ∀ (fuel : Nat) (i : Nat) (k : Nat), mw - i < fuel → i ≤ mw → k = cnt (mgP hw u v li) i → ∀ (H : Heap) (locs : List Loc), va_P (dC, dI) vcl (vX cI cZ a n mw nf sg fo L le sc (mgF hw t u v li i) ba ca st) H → va_D (wF (vX cI cZ a n mw nf sg fo L le sc li ba ca st)) (vX cI cZ a n mw nf sg fo L le sc (mgF hw t u v li i) ba ca st) → va_S (wF (vX cI cZ a n mw nf sg fo L le sc li ba ca st)) s.heap H locs → ∀ ls : Array Slot, lv_has ls 7 [(0, .ref (a 0)), (1, .int (nI hw)), (2, .int (nI t)), (3, .int (nI u)), (4, .int (nI v)), (5, .int (nI k)), (6, .int (nI i))] → W p l e ({ frames := 1, cells := 0, slots := 0, locals := 22 } : Room) s m ([.ref (a 0), .int (nI hw), .int (nI t), .int (nI u), .int (nI v)] : List Value).toArray below meth c H locs 0 0 (MQ below (Qw dC dI (vX cI cZ a n mw nf sg fo L le sc li ba ca st) (vX cI cZ a n mw nf sg fo L le sc (mgF hw t u v li mw) ba ca st) (some (.int (nI (cnt (mgP hw u v li) mw))))) ([.ref (a 0), .int (nI hw), .int (nI t), .int (nI u), .int (nI v)] : List Value).toArray s 0 0 (wF (vX cI cZ a n mw nf sg fo L le sc li ba ca st))) (F0 m 35 ls []) := by
  obtain ⟨⟨hn, hm, hf⟩, ⟨hsg, hfo, hL, hle, hsc, hli, hba, hca⟩, hv1, hv2, hv3, hv4, hv5, hv6, hv7⟩ := id hI
  intro fuel
  induction fuel with
  | zero =>
    intro i k hq
    exact absurd hq (Nat.not_lt_zero _)
  | succ fuel ih =>
    intro i k hq hi hk H locs hP hD hS ls hl
    have hki := cnt_le (mgP hw u v li) i
    have hI2 := iv_mg hI hw t u v i ht hi
    refine lv_iload S.1 S.2.1 dX0_merge_35 (lv_at hl 6 rfl) ?_
    refine lv_aload_n S.1 S.2.1 dX0_merge_37 rfl (lv_at hl 0 rfl) ?_
    refine fX0_wordCount (v := .int (nI mw)) S hK hP rfl rfl dX0_merge_38 ?_
    refine n_icmp_ge (x := i) (y := mw) (tgt := 106) S dX0_merge_41 (by decide) (by omega) (by omega) (fun h41 => ?_) (fun h41 => ?_)
    · refine lv_iload S.1 S.2.1 dX0_merge_106 (lv_at hl 5 rfl) ?_
      exact wr_ret S hr hlk (rfl) (by rw [hk, show i = mw by omega]) hP (by rw [show i = mw by omega]) hS dX0_merge_108
    · refine lv_iload_n S.1 S.2.1 dX0_merge_44 rfl (lv_at hl 1 rfl) ?_
      refine lv_aload_n S.1 S.2.1 dX0_merge_45 rfl (lv_at hl 0 rfl) ?_
      refine lv_iload S.1 S.2.1 dX0_merge_46 (lv_at hl 6 rfl) ?_
      refine lv_iload_n S.1 S.2.1 dX0_merge_48 rfl (lv_at hl 3 rfl) ?_
      refine rd_callV (C := RX0) (As := [.int (nI i), .int (nI u)]) (rest := [.int (nI hw)]) S (kX0_isOf l dC dI cI cZ cJ a n mw nf sg fo L le sc (mgF hw t u v li i) ba ca st i u hI2 (by omega) hu) rB_blind (fun U hU hW => ⟨by rw [hU]; exact hP, va_K.moved hW.alike hK⟩) (va_recv hK hP (ci := 0) (q0 := 0) rfl rfl) gX0_79 hdX0_isOf (by decide) hl.1 rfl (Nat.le_of_ble_eq_true rfl) dX0_merge_49 ⟨Nat.zero_le _, Nat.zero_le _⟩ ?_
      rw [mgF_in]
      refine lv_aload_n S.1 S.2.1 dX0_merge_52 rfl (lv_at hl 0 rfl) ?_
      refine lv_iload S.1 S.2.1 dX0_merge_53 (lv_at hl 6 rfl) ?_
      refine lv_iload S.1 S.2.1 dX0_merge_55 (lv_at hl 4 rfl) ?_
      refine rd_callV (C := RX0) (As := [.int (nI i), .int (nI v)]) (rest := [.int (nI (inl li i u).toNat), .int (nI hw)]) S (kX0_isOf l dC dI cI cZ cJ a n mw nf sg fo L le sc (mgF hw t u v li i) ba ca st i v hI2 (by omega) hv) rB_blind (fun U hU hW => ⟨by rw [hU]; exact hP, va_K.moved hW.alike hK⟩) (va_recv hK hP (ci := 0) (q0 := 0) rfl rfl) gX0_79 hdX0_isOf (by decide) hl.1 rfl (Nat.le_of_ble_eq_true rfl) dX0_merge_57 ⟨Nat.zero_le _, Nat.zero_le _⟩ ?_
      rw [mgF_in]
      refine rd_callS (As := [.int (nI hw), .int (nI (inl li i u).toNat), .int (nI (inl li i v).toNat)]) (rest := []) S (kX0_isChosen l hw (inl li i u) (inl li i v) hh) tr_blind (fun _ _ _ => trivial) gX0_83 hdX0_isChosen (by decide) hl.1 rfl (Nat.le_of_ble_eq_true rfl) dX0_merge_60 ⟨Nat.zero_le _, Nat.zero_le _⟩ ?_
      refine n_bif_eq (b := cho hw (inl li i u) (inl li i v)) (tgt := 85) S dX0_merge_63 (by decide) (fun h63 => ?_) (fun h63 => ?_)
      · refine lv_aload_n S.1 S.2.1 dX0_merge_85 rfl (lv_at hl 0 rfl) ?_
        refine fX0_wordListBits (v := .ref (a 6)) S hK hP rfl rfl dX0_merge_86 ?_
        refine lv_iload S.1 S.2.1 dX0_merge_89 (lv_at hl 6 rfl) ?_
        refine lv_dup2_11 S.1 S.2.1 dX0_merge_91 rfl rfl ?_
        refine n_iald S hK hP 6 0 rfl rfl dX0_merge_92 (j := i) (by decide) (by omega) ?_
        rw [mgF_at]
        have b92 := hli i
        refine lv_iconst (v := (nI 1)) S.1 S.2.1 dX0_merge_93 (by decide) ?_
        refine lv_iload_n S.1 S.2.1 dX0_merge_94 rfl (lv_at hl 2 rfl) ?_
        refine lv_ishl S.1 S.2.1 dX0_merge_95 ?_
        refine lv_iconst (v := -1) S.1 S.2.1 dX0_merge_96 (by decide) ?_
        refine lv_ixor S.1 S.2.1 dX0_merge_97 ?_
        refine lv_iand S.1 S.2.1 dX0_merge_98 ?_
        have hbb : nI (li i) &&& ((nI 1 <<< (nI t &&& 31)) ^^^ -1) = nI (li i &&& (15 - 2 ^ t)) := by obtain ⟨y, q1, q2, q3⟩ := (tb_lt (li i) (by omega) t ht).2.2.2; rw [← q2]; exact q3
        rw [hbb]
        refine n_iast S hK hP hD hS 6 0 rfl rfl dX0_merge_99 (j := i) (x := li i &&& (15 - 2 ^ t)) (by decide) (by omega) (fun H locs hP hD hS => ?_)
        have hP : va_P (dC, dI) vcl (vX cI cZ a n mw nf sg fo L le sc (va_up (mgF hw t u v li i) i (li i &&& (15 - 2 ^ t))) ba ca st) H := hP
        have hD : va_D (wF (vX cI cZ a n mw nf sg fo L le sc li ba ca st)) (vX cI cZ a n mw nf sg fo L le sc (va_up (mgF hw t u v li i) i (li i &&& (15 - 2 ^ t))) ba ca st) := hD
        refine n_iinc (lv' := [(6, .int (nI (i + 1))), (0, .ref (a 0)), (1, .int (nI hw)), (2, .int (nI t)), (3, .int (nI u)), (4, .int (nI v)), (5, .int (nI k))]) (x := i) (k := 6) S dX0_merge_100 hl rfl (by decide) rfl (fun ls hl => ?_)
        refine lv_goto (tgt := 35) S.1 S.2.1 dX0_merge_103 (by decide) ?_
        have e0 : vX cI cZ a n mw nf sg fo L le sc (va_up (mgF hw t u v li i) i (li i &&& (15 - 2 ^ t))) ba ca st = vX cI cZ a n mw nf sg fo L le sc (mgF hw t u v li (i + 1)) ba ca st := (by first | rw [mgF_t h63] | rw [mgF_f h63])
        exact ih (i + 1) k (by omega) (by omega) (by rw [cnt, ← hk, mgP, h63]; rfl) _ _ (by rw [← e0]; exact hP) (by rw [← e0]; exact hD) hS ls (lv_sub hl [1, 2, 3, 4, 5, 6, 0] rfl)
      · refine lv_aload_n S.1 S.2.1 dX0_merge_66 rfl (lv_at hl 0 rfl) ?_
        refine fX0_wordListBits (v := .ref (a 6)) S hK hP rfl rfl dX0_merge_67 ?_
        refine lv_iload S.1 S.2.1 dX0_merge_70 (lv_at hl 6 rfl) ?_
        refine lv_dup2_11 S.1 S.2.1 dX0_merge_72 rfl rfl ?_
        refine n_iald S hK hP 6 0 rfl rfl dX0_merge_73 (j := i) (by decide) (by omega) ?_
        rw [mgF_at]
        have b73 := hli i
        refine lv_iconst (v := (nI 1)) S.1 S.2.1 dX0_merge_74 (by decide) ?_
        refine lv_iload_n S.1 S.2.1 dX0_merge_75 rfl (lv_at hl 2 rfl) ?_
        refine lv_ishl S.1 S.2.1 dX0_merge_76 ?_
        refine lv_ior S.1 S.2.1 dX0_merge_77 ?_
        have hbb : nI (li i) ||| (nI 1 <<< (nI t &&& 31)) = nI (li i ||| 2 ^ t) := by obtain ⟨y, q1, q2, q3⟩ := (tb_lt (li i) (by omega) t ht).2.2.1; rw [← q2]; exact q3
        rw [hbb]
        refine n_iast S hK hP hD hS 6 0 rfl rfl dX0_merge_78 (j := i) (x := li i ||| 2 ^ t) (by decide) (by omega) (fun H locs hP hD hS => ?_)
        have hP : va_P (dC, dI) vcl (vX cI cZ a n mw nf sg fo L le sc (va_up (mgF hw t u v li i) i (li i ||| 2 ^ t)) ba ca st) H := hP
        have hD : va_D (wF (vX cI cZ a n mw nf sg fo L le sc li ba ca st)) (vX cI cZ a n mw nf sg fo L le sc (va_up (mgF hw t u v li i) i (li i ||| 2 ^ t)) ba ca st) := hD
        refine n_iinc (lv' := [(5, .int (nI (k + 1))), (0, .ref (a 0)), (1, .int (nI hw)), (2, .int (nI t)), (3, .int (nI u)), (4, .int (nI v)), (6, .int (nI i))]) (x := k) (k := 5) S dX0_merge_79 hl rfl (by decide) rfl (fun ls hl => ?_)
        refine lv_goto (tgt := 100) S.1 S.2.1 dX0_merge_82 (by decide) ?_
        refine n_iinc (lv' := [(6, .int (nI (i + 1))), (5, .int (nI (k + 1))), (0, .ref (a 0)), (1, .int (nI hw)), (2, .int (nI t)), (3, .int (nI u)), (4, .int (nI v))]) (x := i) (k := 6) S dX0_merge_100 hl rfl (by decide) rfl (fun ls hl => ?_)
        refine lv_goto (tgt := 35) S.1 S.2.1 dX0_merge_103 (by decide) ?_
        have e0 : vX cI cZ a n mw nf sg fo L le sc (va_up (mgF hw t u v li i) i (li i ||| 2 ^ t)) ba ca st = vX cI cZ a n mw nf sg fo L le sc (mgF hw t u v li (i + 1)) ba ca st := (by first | rw [mgF_t h63] | rw [mgF_f h63])
        exact ih (i + 1) (k + 1) (by omega) (by omega) (by rw [cnt, ← hk, mgP, h63]; rfl) _ _ (by rw [← e0]; exact hP) (by rw [← e0]; exact hD) hS ls (lv_sub hl [2, 3, 4, 5, 6, 1, 0] rfl)
set_option maxRecDepth 100000 in
set_option maxHeartbeats 1000000 in
theorem kX0_merge (l : Launch) (dC : Nat → ClassId) (dI : Nat → Nat → Nat) (cI cZ cJ : ClassId) (a : Nat → Nat) (n mw nf : Nat) (sg fo L le sc li ba ca st : Nat → Nat) (hw : Nat) (t : Nat) (u : Nat) (v : Nat) (hI : iv n mw nf sg fo L le sc li ba ca) (hh : hw < 3) (ht : t < 4) (hu : u < 4) (hv : v < 4) : wr l yX0_merge cX0_merge 7 (some .int) 1 22 [.ref (a 0), .int (nI hw), .int (nI t), .int (nI u), .int (nI v)] dC dI cI cZ cJ (vX cI cZ a n mw nf sg fo L le sc li ba ca st) (vX cI cZ a n mw nf sg fo L le sc (mgF hw t u v li mw) ba ca st) (some (.int (nI (cnt (mgP hw u v li) mw)))) := by
  refine wr_ofW RX0 (by decide) rfl (Nat.le_of_ble_eq_true rfl) ?_
  intro p e s m below meth c S hr hlk hK hP hD hS ls hl
  have hl : lv_has ls 7 [(0, .ref (a 0)), (1, .int (nI hw)), (2, .int (nI t)), (3, .int (nI u)), (4, .int (nI v))] := hl
  obtain ⟨⟨hn, hm, hf⟩, ⟨hsg, hfo, hL, hle, hsc, hli, hba, hca⟩, hv1, hv2, hv3, hv4, hv5, hv6, hv7⟩ := id hI
  refine lv_iload_n S.1 S.2.1 dX0_merge_0 rfl (lv_at hl 2 rfl) ?_
  refine rdv_callS (As := [.int (nI t)]) (rest := []) S (kX0_needList l t ht) tr_blind (fun _ _ _ => trivial) gX0_56 hdX0_needList (by decide) hl.1 rfl (Nat.le_of_ble_eq_true rfl) dX0_merge_1 ⟨Nat.zero_le _, Nat.zero_le _⟩ ?_
  refine lv_iload_n S.1 S.2.1 dX0_merge_4 rfl (lv_at hl 3 rfl) ?_
  refine rdv_callS (As := [.int (nI u)]) (rest := []) S (kX0_needList l u hu) tr_blind (fun _ _ _ => trivial) gX0_56 hdX0_needList (by decide) hl.1 rfl (Nat.le_of_ble_eq_true rfl) dX0_merge_5 ⟨Nat.zero_le _, Nat.zero_le _⟩ ?_
  refine lv_iload S.1 S.2.1 dX0_merge_8 (lv_at hl 4 rfl) ?_
  refine rdv_callS (As := [.int (nI v)]) (rest := []) S (kX0_needList l v hv) tr_blind (fun _ _ _ => trivial) gX0_56 hdX0_needList (by decide) hl.1 rfl (Nat.le_of_ble_eq_true rfl) dX0_merge_10 ⟨Nat.zero_le _, Nat.zero_le _⟩ ?_
  refine lv_iload_n S.1 S.2.1 dX0_merge_13 rfl (lv_at hl 1 rfl) ?_
  refine n_if_eq (x := hw) (tgt := 29) S dX0_merge_14 (by decide) (by omega) (fun h14 => ?_) (fun h14 => ?_)
  · refine lv_iconst (v := (nI 0)) S.1 S.2.1 dX0_merge_29 (by decide) ?_
    refine lv_istore (lv' := [(5, .int (nI 0)), (0, .ref (a 0)), (1, .int (nI hw)), (2, .int (nI t)), (3, .int (nI u)), (4, .int (nI v))]) S.1 S.2.1 dX0_merge_30 hl (by decide) rfl (fun ls hl => ?_)
    refine lv_iconst (v := (nI 0)) S.1 S.2.1 dX0_merge_32 (by decide) ?_
    refine lv_istore (lv' := [(6, .int (nI 0)), (5, .int (nI 0)), (0, .ref (a 0)), (1, .int (nI hw)), (2, .int (nI t)), (3, .int (nI u)), (4, .int (nI v))]) S.1 S.2.1 dX0_merge_33 hl (by decide) rfl (fun ls hl => ?_)
    have e0 : vX cI cZ a n mw nf sg fo L le sc li ba ca st = vX cI cZ a n mw nf sg fo L le sc (mgF hw t u v li 0) ba ca st := (by rw [mgF_0])
    exact lX0_merge_35 l dC dI cI cZ cJ a n mw nf sg fo L le sc li ba ca st hw t u v hI hh ht hu hv S hr hlk hK _ 0 0 (Nat.lt_succ_self _) (by omega) rfl _ _ (by rw [← e0]; exact hP) (by rw [← e0]; exact hD) hS ls (lv_sub hl [2, 3, 4, 5, 6, 1, 0] rfl)
  · refine lv_iload_n S.1 S.2.1 dX0_merge_17 rfl (lv_at hl 1 rfl) ?_
    refine lv_iconst (v := (nI 1)) S.1 S.2.1 dX0_merge_18 (by decide) ?_
    refine n_icmp_eq (x := hw) (y := 1) (tgt := 29) S dX0_merge_19 (by decide) (by omega) (by omega) (fun h19 => ?_) (fun h19 => ?_)
    · refine lv_iconst (v := (nI 0)) S.1 S.2.1 dX0_merge_29 (by decide) ?_
      refine lv_istore (lv' := [(5, .int (nI 0)), (0, .ref (a 0)), (1, .int (nI hw)), (2, .int (nI t)), (3, .int (nI u)), (4, .int (nI v))]) S.1 S.2.1 dX0_merge_30 hl (by decide) rfl (fun ls hl => ?_)
      refine lv_iconst (v := (nI 0)) S.1 S.2.1 dX0_merge_32 (by decide) ?_
      refine lv_istore (lv' := [(6, .int (nI 0)), (5, .int (nI 0)), (0, .ref (a 0)), (1, .int (nI hw)), (2, .int (nI t)), (3, .int (nI u)), (4, .int (nI v))]) S.1 S.2.1 dX0_merge_33 hl (by decide) rfl (fun ls hl => ?_)
      have e0 : vX cI cZ a n mw nf sg fo L le sc li ba ca st = vX cI cZ a n mw nf sg fo L le sc (mgF hw t u v li 0) ba ca st := (by rw [mgF_0])
      exact lX0_merge_35 l dC dI cI cZ cJ a n mw nf sg fo L le sc li ba ca st hw t u v hI hh ht hu hv S hr hlk hK _ 0 0 (Nat.lt_succ_self _) (by omega) rfl _ _ (by rw [← e0]; exact hP) (by rw [← e0]; exact hD) hS ls (lv_sub hl [2, 3, 4, 5, 6, 1, 0] rfl)
    · refine lv_iload_n S.1 S.2.1 dX0_merge_22 rfl (lv_at hl 1 rfl) ?_
      refine lv_iconst (v := (nI 2)) S.1 S.2.1 dX0_merge_23 (by decide) ?_
      refine n_icmp_eq (x := hw) (y := 2) (tgt := 29) S dX0_merge_24 (by decide) (by omega) (by omega) (fun h24 => ?_) (fun h24 => ?_)
      · refine lv_iconst (v := (nI 0)) S.1 S.2.1 dX0_merge_29 (by decide) ?_
        refine lv_istore (lv' := [(5, .int (nI 0)), (0, .ref (a 0)), (1, .int (nI hw)), (2, .int (nI t)), (3, .int (nI u)), (4, .int (nI v))]) S.1 S.2.1 dX0_merge_30 hl (by decide) rfl (fun ls hl => ?_)
        refine lv_iconst (v := (nI 0)) S.1 S.2.1 dX0_merge_32 (by decide) ?_
        refine lv_istore (lv' := [(6, .int (nI 0)), (5, .int (nI 0)), (0, .ref (a 0)), (1, .int (nI hw)), (2, .int (nI t)), (3, .int (nI u)), (4, .int (nI v))]) S.1 S.2.1 dX0_merge_33 hl (by decide) rfl (fun ls hl => ?_)
        have e0 : vX cI cZ a n mw nf sg fo L le sc li ba ca st = vX cI cZ a n mw nf sg fo L le sc (mgF hw t u v li 0) ba ca st := (by rw [mgF_0])
        exact lX0_merge_35 l dC dI cI cZ cJ a n mw nf sg fo L le sc li ba ca st hw t u v hI hh ht hu hv S hr hlk hK _ 0 0 (Nat.lt_succ_self _) (by omega) rfl _ _ (by rw [← e0]; exact hP) (by rw [← e0]; exact hD) hS ls (lv_sub hl [2, 3, 4, 5, 6, 1, 0] rfl)
      · exact absurd hh (by omega)
end
section
/-! ===== the class: writers, third part ===== -/
theorem fit_le {n : Nat} {sg fo L le : Nat → Nat} {w : Nat} (h : fit n sg fo L le w = true) : le w = n := by
  simp only [fit, Bool.and_eq_true, decide_eq_true_eq] at h; exact h.1
/-- w put among the candidates: from place p downwards, ahead of those that A says -/
def inC (A : Nat → Bool) (w : Nat) : Nat → (Nat → Nat) → (Nat → Nat)
  | 0, c => va_up c 0 w
  | p + 1, c => if A (c p) = true then inC A w p (va_up c (p + 1) (c p)) else va_up c (p + 1) w
theorem inC_t {A : Nat → Bool} {w q : Nat} {c : Nat → Nat} (hq : 0 < q) (h : A (c (q - 1)) = true) : inC A w (q - 1) (va_up c q (c (q - 1))) = inC A w q c := by
  obtain ⟨p, rfl⟩ : ∃ p, q = p + 1 := ⟨q - 1, by omega⟩
  rw [Nat.add_sub_cancel] at h ⊢
  rw [inC, if_pos h]
theorem inC_f {A : Nat → Bool} {w q : Nat} {c : Nat → Nat} (hq : 0 < q) (h : A (c (q - 1)) = false) : inC A w q c = va_up c q w := by
  obtain ⟨p, rfl⟩ : ∃ p, q = p + 1 := ⟨q - 1, by omega⟩
  rw [Nat.add_sub_cancel] at h
  rw [inC, if_neg (by rw [h]; decide)]
theorem inC_any {A : Nat → Bool} {w : Nat} {P : Nat → Prop} : ∀ {p : Nat} {c : Nat → Nat}, (∀ k, P (c k)) → P w → ∀ k, P (inC A w p c k) := by
  intro p
  induction p with
  | zero =>
    intro c hc hw k
    rw [inC]
    by_cases q : k = 0
    · subst q; rw [va_up_self]; exact hw
    · rw [va_up_ne _ _ q]; exact hc k
  | succ p ih =>
    intro c hc hw k
    rw [inC]
    split
    · refine ih (fun j => ?_) hw k
      by_cases q : j = p + 1
      · subst q; rw [va_up_self]; exact hc p
      · rw [va_up_ne _ _ q]; exact hc j
    · by_cases q : k = p + 1
      · subst q; rw [va_up_self]; exact hw
      · rw [va_up_ne _ _ q]; exact hc k
theorem inC_all' {A : Nat → Bool} {w : Nat} {P : Nat → Prop} (F : Nat) : ∀ {p : Nat} {c : Nat → Nat}, p ≤ F → (∀ k, k < p → P (c k)) → (∀ k, p < k → k < F + 1 → P (c k)) → P w → ∀ k, k < F + 1 → P (inC A w p c k) := by
  intro p
  induction p with
  | zero =>
    intro c _ _ h2 hw k hk
    rw [inC]
    by_cases q : k = 0
    · subst q; rw [va_up_self]; exact hw
    · rw [va_up_ne _ _ q]; exact h2 k (by omega) hk
  | succ p ih =>
    intro c hp h1 h2 hw k hk
    rw [inC]
    split
    · refine ih (by omega) (fun j hj => ?_) (fun j hj hj2 => ?_) hw k hk
      · rw [va_up_ne _ _ (by omega)]; exact h1 j (by omega)
      · by_cases q : j = p + 1
        · subst q; rw [va_up_self]; exact h1 p (by omega)
        · rw [va_up_ne _ _ q]; exact h2 j (by omega) hj2
    · by_cases q : k = p + 1
      · subst q; rw [va_up_self]; exact hw
      · rw [va_up_ne _ _ q]
        by_cases z : k < p + 1
        · exact h1 k z
        · exact h2 k (by omega) hk
theorem inC_all {A : Nat → Bool} {w : Nat} {P : Nat → Prop} {p : Nat} {c : Nat → Nat} (h1 : ∀ k, k < p → P (c k)) (hw : P w) (k : Nat) (hk : k < p + 1) : P (inC A w p c k) := inC_all' p (Nat.le_refl p) h1 (fun k a b => absurd b (by omega)) hw k hk
theorem iv_ca {n mw nf : Nat} {sg fo L le sc li ba ca : Nat → Nat} (hI : iv n mw nf sg fo L le sc li ba ca) {q x : Nat} (h5 : x < 250) (hx : x < mw) : iv n mw nf sg fo L le sc li ba (va_up ca q x) := by
  obtain ⟨h1, ⟨hsg, hfo, hL, hle, hsc, hli, hba, hca⟩, hv1, hv2, hv3, hv4, hv5, hv6, hv7⟩ := hI
  refine ⟨h1, ⟨hsg, hfo, hL, hle, hsc, hli, hba, fun k => ?_⟩, hv1, hv2, hv3, hv4, hv5, hv6, fun k hk => ?_⟩
  · by_cases z : k = q
    · subst z; rw [va_up_self]; exact h5
    · rw [va_up_ne _ _ z]; exact hca k
  · by_cases z : k = q
    · subst z; rw [va_up_self]; exact hx
    · rw [va_up_ne _ _ z]; exact hv7 k hk
theorem iv_sk {n mw nf f : Nat} {sg fo L le sc li ba ca c : Nat → Nat} (hI : iv n mw nf sg fo L le sc li ba ca) (hf : f ≤ mw) (h5 : ∀ k, c k < 250) (hx : ∀ k, k < f → c k < mw) : iv n mw f sg fo L le sc li ba c := by
  obtain ⟨⟨h1, h2, -⟩, ⟨hsg, hfo, hL, hle, hsc, hli, hba, hca⟩, hv1, hv2, hv3, hv4, hv5, hv6, hv7⟩ := hI
  exact ⟨⟨h1, h2, hf⟩, ⟨hsg, hfo, hL, hle, hsc, hli, hba, h5⟩, hv1, hv2, hv3, hv4, hv5, hv6, hx⟩
/-- the candidates behind the first i words -/
def skS (n : Nat) (sg fo L le sc li ba : Nat → Nat) (t : Nat) (ca : Nat → Nat) : Nat → Nat × (Nat → Nat)
  | 0 => (0, ca)
  | i + 1 => match skS n sg fo L le sc li ba t ca i, fre li ba t i, fit n sg fo L le i with
    | (f, c), true, true => (f + 1, inC (ahd L sc i) i f c)
    | (f, c), _, _ => (f, c)
/-- how often the row has each letter -/
def rcS (i : Nat) (sg fo st : Nat → Nat) : Nat → Nat := fun k => if k < 26 then cnt (fun j => decide (fsg sg fo j = 97 + k)) i else st k
def zrS (i : Nat) (st : Nat → Nat) : Nat → Nat := fun k => if k < i then 0 else st k
theorem zrS_0 {st : Nat → Nat} : zrS 0 st = st := by
  funext k; rw [zrS, if_neg (by omega)]
theorem zrS_s {i : Nat} {st : Nat → Nat} : va_up (zrS i st) i 0 = zrS (i + 1) st := by
  funext k
  by_cases q : k = i
  · subst q; rw [va_up_self, zrS, if_pos (by omega)]
  · rw [va_up_ne _ _ q, zrS, zrS]
    by_cases z : k < i
    · rw [if_pos z, if_pos (by omega)]
    · rw [if_neg z, if_neg (by omega)]
theorem rcS_b {i : Nat} {sg fo st : Nat → Nat} (h : fsg sg fo i = 63) : rcS i sg fo st = rcS (i + 1) sg fo st := by
  funext k
  rw [rcS, rcS]
  split
  · rw [cnt, decide_eq_false (by omega)]; rfl
  · rfl
theorem rcS_l {i : Nat} {sg fo st : Nat → Nat} (h : 97 ≤ fsg sg fo i ∧ fsg sg fo i ≤ 122) : va_up (rcS i sg fo st) (fsg sg fo i - 97) (rcS i sg fo st (fsg sg fo i - 97) + 1) = rcS (i + 1) sg fo st := by
  funext k
  by_cases q : k = fsg sg fo i - 97
  · subst q
    rw [va_up_self, rcS, rcS, if_pos (by omega), if_pos (by omega), cnt, decide_eq_true (by omega)]; rfl
  · rw [va_up_ne _ _ q, rcS, rcS]
    split
    · rw [cnt, decide_eq_false (by omega)]; rfl
    · rfl
set_option maxRecDepth 100000 in
set_option maxHeartbeats 1000000 in
theorem lX0_addCandidate_5 (l : Launch) (dC : Nat → ClassId) (dI : Nat → Nat → Nat) (cI cZ cJ : ClassId) (a : Nat → Nat) (n mw nf : Nat) (sg fo L le sc li ba ca st : Nat → Nat) (w : Nat) (hI : iv n mw nf sg fo L le sc li ba ca) (hw : w < mw) (hnf : nf < 250) (hc : ∀ k, k < nf → le (ca k) = le w)   {p : Program} {e : Env} {s : State} {m : MethodId} {below : List Frame} {meth : Method} {c : Code}(S : CallFix p m c cX0_addCandidate 3 s ([.ref (a 0), .int (nI w)] : List Value).toArray tbG RX0) (hr : meth.sig.returnType = none) (hlk : meth.locks = false) (hK : va_K (dC, dI) vcl (vty cI cZ cJ) s) :
    ∀ (fuel : Nat) (q : Nat) (cx : Nat → Nat), q < fuel → q ≤ nf → inC (ahd L sc w) w q cx = inC (ahd L sc w) w nf ca → (∀ k, k < q → cx k = ca k) → iv n mw nf sg fo L le sc li ba cx → ∀ (H : Heap) (locs : List Loc), va_P (dC, dI) vcl (vX cI cZ a n mw nf sg fo L le sc li ba cx st) H → va_D (wF (vX cI cZ a n mw nf sg fo L le sc li ba ca st)) (vX cI cZ a n mw nf sg fo L le sc li ba cx st) → va_S (wF (vX cI cZ a n mw nf sg fo L le sc li ba ca st)) s.heap H locs → ∀ ls : Array Slot, lv_has ls 3 [(0, .ref (a 0)), (1, .int (nI w)), (2, .int (nI q))] → W p l e ({ frames := 3, cells := 0, slots := 0, locals := 69 } : Room) s m ([.ref (a 0), .int (nI w)] : List Value).toArray below meth c H locs 0 0 (MQ below (Qw dC dI (vX cI cZ a n mw nf sg fo L le sc li ba ca st) (vX cI cZ a n mw (nf + 1) sg fo L le sc li ba (inC (ahd L sc w) w nf ca) st) none) ([.ref (a 0), .int (nI w)] : List Value).toArray s 0 0 (wF (vX cI cZ a n mw nf sg fo L le sc li ba ca st))) (F0 m 5 ls []) := by
  obtain ⟨⟨hn, hm, hf⟩, ⟨hsg, hfo, hL, hle, hsc, hli, hba, hca⟩, hv1, hv2, hv3, hv4, hv5, hv6, hv7⟩ := id hI
  intro fuel
  induction fuel with
  | zero =>
    intro q cx hq
    exact absurd hq (Nat.not_lt_zero _)
  | succ fuel ih =>
    intro q cx hq hq1 hin h18 hI2 H locs hP hD hS ls hl
    refine lv_iload_n S.1 S.2.1 dX0_addCandidate_5 rfl (lv_at hl 2 rfl) ?_
    refine n_if_le (x := q) (tgt := 45) S dX0_addCandidate_6 (by decide) (by omega) (fun h6 => ?_) (fun h6 => ?_)
    · refine lv_aload_n S.1 S.2.1 dX0_addCandidate_45 rfl (lv_at hl 0 rfl) ?_
      refine fX0_candidates (v := .ref (a 8)) S hK hP rfl rfl dX0_addCandidate_46 ?_
      refine lv_iload_n S.1 S.2.1 dX0_addCandidate_49 rfl (lv_at hl 2 rfl) ?_
      refine lv_iload_n S.1 S.2.1 dX0_addCandidate_50 rfl (lv_at hl 1 rfl) ?_
      refine n_iast S hK hP hD hS 8 0 rfl rfl dX0_addCandidate_51 (j := q) (x := w) (by decide) (by omega) (fun H locs hP hD hS => ?_)
      have hP : va_P (dC, dI) vcl (vX cI cZ a n mw nf sg fo L le sc li ba (va_up cx q w) st) H := hP
      have hD : va_D (wF (vX cI cZ a n mw nf sg fo L le sc li ba ca st)) (vX cI cZ a n mw nf sg fo L le sc li ba (va_up cx q w) st) := hD
      refine lv_aload_n S.1 S.2.1 dX0_addCandidate_52 rfl (lv_at hl 0 rfl) ?_
      refine lv_dup S.1 S.2.1 dX0_addCandidate_53 rfl ?_
      refine fX0_candidateCount (v := .int (nI nf)) S hK hP rfl rfl dX0_addCandidate_54 ?_
      refine lv_iconst (v := (nI 1)) S.1 S.2.1 dX0_addCandidate_57 (by decide) ?_
      refine n_iadd (x := nf) (y := 1) S dX0_addCandidate_58 ?_
      refine pX0_candidateCount S hK hP hD hS rfl (Nat.le_of_ble_eq_true rfl) dX0_addCandidate_59 (fun H locs hP hD hS => ?_)
      have hP : va_P (dC, dI) vcl (vX cI cZ a n mw (nf + 1) sg fo L le sc li ba (va_up cx q w) st) H := hP
      have hD : va_D (wF (vX cI cZ a n mw nf sg fo L le sc li ba ca st)) (vX cI cZ a n mw (nf + 1) sg fo L le sc li ba (va_up cx q w) st) := hD
      exact wr_retv S hr hlk hP (by rw [← hin]; first | (rw [inC_f (by omega) h22]; done) | (rw [h6]; rfl)) hS dX0_addCandidate_62
    · refine lv_aload_n S.1 S.2.1 dX0_addCandidate_9 rfl (lv_at hl 0 rfl) ?_
      refine lv_iload_n S.1 S.2.1 dX0_addCandidate_10 rfl (lv_at hl 1 rfl) ?_
      refine lv_aload_n S.1 S.2.1 dX0_addCandidate_11 rfl (lv_at hl 0 rfl) ?_
      refine fX0_candidates (v := .ref (a 8)) S hK hP rfl rfl dX0_addCandidate_12 ?_
      refine lv_iload_n S.1 S.2.1 dX0_addCandidate_15 rfl (lv_at hl 2 rfl) ?_
      refine lv_iconst (v := (nI 1)) S.1 S.2.1 dX0_addCandidate_16 (by decide) ?_
      refine n_isub (x := q) (y := 1) S dX0_addCandidate_17 (by omega) ?_
      refine n_iald S hK hP 8 0 rfl rfl dX0_addCandidate_18 (j := q - 1) (by decide) (by omega) ?_
      have b18 := h18 (q - 1) (by omega)
      refine rd_callV (C := RX0) (As := [.int (nI w), .int (nI (cx (q - 1)))]) (rest := []) S (kX0_isAhead l dC dI cI cZ cJ a n mw nf sg fo L le sc li ba cx st w (cx (q - 1)) hI2 (by omega) (by rw [b18]; exact hv7 _ (by omega)) (by rw [b18]; exact (hc _ (by omega)).symm)) rB_blind (fun U hU hW => ⟨by rw [hU]; exact hP, va_K.moved hW.alike hK⟩) (va_recv hK hP (ci := 0) (q0 := 0) rfl rfl) gX0_131 hdX0_isAhead (by decide) hl.1 rfl (Nat.le_of_ble_eq_true rfl) dX0_addCandidate_19 ⟨Nat.zero_le _, Nat.zero_le _⟩ ?_
      refine n_bif_eq (b := ahd L sc w (cx (q - 1))) (tgt := 45) S dX0_addCandidate_22 (by decide) (fun h22 => ?_) (fun h22 => ?_)
      · refine lv_aload_n S.1 S.2.1 dX0_addCandidate_45 rfl (lv_at hl 0 rfl) ?_
        refine fX0_candidates (v := .ref (a 8)) S hK hP rfl rfl dX0_addCandidate_46 ?_
        refine lv_iload_n S.1 S.2.1 dX0_addCandidate_49 rfl (lv_at hl 2 rfl) ?_
        refine lv_iload_n S.1 S.2.1 dX0_addCandidate_50 rfl (lv_at hl 1 rfl) ?_
        refine n_iast S hK hP hD hS 8 0 rfl rfl dX0_addCandidate_51 (j := q) (x := w) (by decide) (by omega) (fun H locs hP hD hS => ?_)
        have hP : va_P (dC, dI) vcl (vX cI cZ a n mw nf sg fo L le sc li ba (va_up cx q w) st) H := hP
        have hD : va_D (wF (vX cI cZ a n mw nf sg fo L le sc li ba ca st)) (vX cI cZ a n mw nf sg fo L le sc li ba (va_up cx q w) st) := hD
        refine lv_aload_n S.1 S.2.1 dX0_addCandidate_52 rfl (lv_at hl 0 rfl) ?_
        refine lv_dup S.1 S.2.1 dX0_addCandidate_53 rfl ?_
        refine fX0_candidateCount (v := .int (nI nf)) S hK hP rfl rfl dX0_addCandidate_54 ?_
        refine lv_iconst (v := (nI 1)) S.1 S.2.1 dX0_addCandidate_57 (by decide) ?_
        refine n_iadd (x := nf) (y := 1) S dX0_addCandidate_58 ?_
        refine pX0_candidateCount S hK hP hD hS rfl (Nat.le_of_ble_eq_true rfl) dX0_addCandidate_59 (fun H locs hP hD hS => ?_)
        have hP : va_P (dC, dI) vcl (vX cI cZ a n mw (nf + 1) sg fo L le sc li ba (va_up cx q w) st) H := hP
        have hD : va_D (wF (vX cI cZ a n mw nf sg fo L le sc li ba ca st)) (vX cI cZ a n mw (nf + 1) sg fo L le sc li ba (va_up cx q w) st) := hD
        exact wr_retv S hr hlk hP (by rw [← hin]; first | (rw [inC_f (by omega) h22]; done) | (rw [h6]; rfl)) hS dX0_addCandidate_62
      · refine lv_aload_n S.1 S.2.1 dX0_addCandidate_25 rfl (lv_at hl 0 rfl) ?_
        refine fX0_candidates (v := .ref (a 8)) S hK hP rfl rfl dX0_addCandidate_26 ?_
        refine lv_iload_n S.1 S.2.1 dX0_addCandidate_29 rfl (lv_at hl 2 rfl) ?_
        refine lv_aload_n S.1 S.2.1 dX0_addCandidate_30 rfl (lv_at hl 0 rfl) ?_
        refine fX0_candidates (v := .ref (a 8)) S hK hP rfl rfl dX0_addCandidate_31 ?_
        refine lv_iload_n S.1 S.2.1 dX0_addCandidate_34 rfl (lv_at hl 2 rfl) ?_
        refine lv_iconst (v := (nI 1)) S.1 S.2.1 dX0_addCandidate_35 (by decide) ?_
        refine n_isub (x := q) (y := 1) S dX0_addCandidate_36 (by omega) ?_
        refine n_iald S hK hP 8 0 rfl rfl dX0_addCandidate_37 (j := q - 1) (by decide) (by omega) ?_
        refine n_iast S hK hP hD hS 8 0 rfl rfl dX0_addCandidate_38 (j := q) (x := cx (q - 1)) (by decide) (by omega) (fun H locs hP hD hS => ?_)
        have hP : va_P (dC, dI) vcl (vX cI cZ a n mw nf sg fo L le sc li ba (va_up cx q (cx (q - 1))) st) H := hP
        have hD : va_D (wF (vX cI cZ a n mw nf sg fo L le sc li ba ca st)) (vX cI cZ a n mw nf sg fo L le sc li ba (va_up cx q (cx (q - 1))) st) := hD
        refine n_idec (lv' := [(2, .int (nI (q - 1))), (0, .ref (a 0)), (1, .int (nI w))]) (x := q) (k := 2) S dX0_addCandidate_39 hl rfl (by omega) (by decide) rfl (fun ls hl => ?_)
        refine lv_goto (tgt := 5) S.1 S.2.1 dX0_addCandidate_42 (by decide) ?_
        have e0 : vX cI cZ a n mw nf sg fo L le sc li ba (va_up cx q (cx (q - 1))) st = vX cI cZ a n mw nf sg fo L le sc li ba ((va_up cx q (cx (q - 1)))) st := rfl
        exact ih (q - 1) (va_up cx q (cx (q - 1))) (by omega) (by omega) (by rw [← hin, inC_t (by omega) h22]) (fun k hk => by rw [va_up_ne _ _ (by omega)]; exact h18 k (by omega)) (iv_ca hI2 (hI2.2.1.2.2.2.2.2.2.2 _) (by rw [b18]; exact hv7 _ (by omega))) _ _ (by rw [← e0]; exact hP) (by rw [← e0]; exact hD) hS ls (lv_sub hl [1, 2, 0] rfl)
set_option maxRecDepth 100000 in
set_option maxHeartbeats 1000000 in
theorem kX0_addCandidate (l : Launch) (dC : Nat → ClassId) (dI : Nat → Nat → Nat) (cI cZ cJ : ClassId) (a : Nat → Nat) (n mw nf : Nat) (sg fo L le sc li ba ca st : Nat → Nat) (w : Nat) (hI : iv n mw nf sg fo L le sc li ba ca) (hw : w < mw) (hnf : nf < 250) (hc : ∀ k, k < nf → le (ca k) = le w) : wr l yX0_addCandidate cX0_addCandidate 3 none 3 69 [.ref (a 0), .int (nI w)] dC dI cI cZ cJ (vX cI cZ a n mw nf sg fo L le sc li ba ca st) (vX cI cZ a n mw (nf + 1) sg fo L le sc li ba (inC (ahd L sc w) w nf ca) st) none := by
  refine wr_ofW RX0 (by decide) rfl (Nat.le_of_ble_eq_true rfl) ?_
  intro p e s m below meth c S hr hlk hK hP hD hS ls hl
  have hl : lv_has ls 3 [(0, .ref (a 0)), (1, .int (nI w))] := hl
  obtain ⟨⟨hn, hm, hf⟩, ⟨hsg, hfo, hL, hle, hsc, hli, hba, hca⟩, hv1, hv2, hv3, hv4, hv5, hv6, hv7⟩ := id hI
  refine lv_aload_n S.1 S.2.1 dX0_addCandidate_0 rfl (lv_at hl 0 rfl) ?_
  refine fX0_candidateCount (v := .int (nI nf)) S hK hP rfl rfl dX0_addCandidate_1 ?_
  refine lv_istore_n (lv' := [(2, .int (nI nf)), (0, .ref (a 0)), (1, .int (nI w))]) S.1 S.2.1 dX0_addCandidate_4 rfl hl (by decide) rfl (fun ls hl => ?_)
  exact lX0_addCandidate_5 l dC dI cI cZ cJ a n mw nf sg fo L le sc li ba ca st w hI hw hnf hc S hr hlk hK _ nf ca (Nat.lt_succ_self _) (Nat.le_refl _) rfl (fun _ _ => rfl) hI _ _ hP hD hS ls (lv_sub hl [1, 2, 0] rfl)

set_option maxRecDepth 100000 in
set_option maxHeartbeats 1000000 in
theorem lX0_seek_11 (l : Launch) (dC : Nat → ClassId) (dI : Nat → Nat → Nat) (cI cZ cJ : ClassId) (a : Nat → Nat) (n mw nf : Nat) (sg fo L le sc li ba ca st : Nat → Nat) (t : Nat) (hI : iv n mw nf sg fo L le sc li ba ca) (ht : t < 4)   {p : Program} {e : Env} {s : State} {m : MethodId} {below : List Frame} {meth : Method} {c : Code}(S : CallFix p m c cX0_seek 3 s ([.ref (a 0), .int (nI t)] : List Value).toArray tbG RX0) (hr : meth.sig.returnType = (some .int)) (hlk : meth.locks = false) (hK : va_K (dC, dI) vcl (vty cI cZ cJ) s) :
    ∀ (fuel : Nat) (i : Nat) (f : Nat) (cx : Nat → Nat), mw - i < fuel → i ≤ mw → (f, cx) = skS n sg fo L le sc li ba t ca i → f ≤ i → (∀ k, k < f → cx k < i ∧ le (cx k) = n) → (∀ k, cx k < 250) → ∀ (H : Heap) (locs : List Loc), va_P (dC, dI) vcl (vX cI cZ a n mw f sg fo L le sc li ba cx st) H → va_D (wF (vX cI cZ a n mw nf sg fo L le sc li ba ca st)) (vX cI cZ a n mw f sg fo L le sc li ba cx st) → va_S (wF (vX cI cZ a n mw nf sg fo L le sc li ba ca st)) s.heap H locs → ∀ ls : Array Slot, lv_has ls 3 [(0, .ref (a 0)), (1, .int (nI t)), (2, .int (nI i))] → W p l e ({ frames := 4, cells := 0, slots := 0, locals := 91 } : Room) s m ([.ref (a 0), .int (nI t)] : List Value).toArray below meth c H locs 0 0 (MQ below (Qw dC dI (vX cI cZ a n mw nf sg fo L le sc li ba ca st) (vX cI cZ a n mw ((skS n sg fo L le sc li ba t ca mw).1) sg fo L le sc li ba ((skS n sg fo L le sc li ba t ca mw).2) st) (some (.int (nI ((skS n sg fo L le sc li ba t ca mw).1))))) ([.ref (a 0), .int (nI t)] : List Value).toArray s 0 0 (wF (vX cI cZ a n mw nf sg fo L le sc li ba ca st))) (F0 m 11 ls []) := by
  obtain ⟨⟨hn, hm, hf⟩, ⟨hsg, hfo, hL, hle, hsc, hli, hba, hca⟩, hv1, hv2, hv3, hv4, hv5, hv6, hv7⟩ := id hI
  intro fuel
  induction fuel with
  | zero =>
    intro i f cx hq
    exact absurd hq (Nat.not_lt_zero _)
  | succ fuel ih =>
    intro i f cx hq hi hsk hfi hcc hc5 H locs hP hD hS ls hl
    have hI2 := iv_sk hI (show f ≤ mw by omega) hc5 (fun k hk => by have := (hcc k hk).1; omega)
    refine lv_iload_n S.1 S.2.1 dX0_seek_11 rfl (lv_at hl 2 rfl) ?_
    refine lv_aload_n S.1 S.2.1 dX0_seek_12 rfl (lv_at hl 0 rfl) ?_
    refine fX0_wordCount (v := .int (nI mw)) S hK hP rfl rfl dX0_seek_13 ?_
    refine n_icmp_ge (x := i) (y := mw) (tgt := 47) S dX0_seek_16 (by decide) (by omega) (by omega) (fun h16 => ?_) (fun h16 => ?_)
    · refine lv_aload_n S.1 S.2.1 dX0_seek_47 rfl (lv_at hl 0 rfl) ?_
      refine fX0_candidateCount (v := .int (nI f)) S hK hP rfl rfl dX0_seek_48 ?_
      exact wr_ret S hr hlk (rfl) (by rw [show mw = i by omega, ← hsk]) hP (by rw [show (skS n sg fo L le sc li ba t ca mw) = (f, cx) by rw [show mw = i by omega]; exact hsk.symm]) hS dX0_seek_51
    · refine lv_aload_n S.1 S.2.1 dX0_seek_19 rfl (lv_at hl 0 rfl) ?_
      refine lv_iload_n S.1 S.2.1 dX0_seek_20 rfl (lv_at hl 2 rfl) ?_
      refine lv_iload_n S.1 S.2.1 dX0_seek_21 rfl (lv_at hl 1 rfl) ?_
      refine rd_callV (C := RX0) (As := [.int (nI i), .int (nI t)]) (rest := []) S (kX0_isFreeIn l dC dI cI cZ cJ a n mw f sg fo L le sc li ba cx st i t hI2 (by omega) ht) rB_blind (fun U hU hW => ⟨by rw [hU]; exact hP, va_K.moved hW.alike hK⟩) (va_recv hK hP (ci := 0) (q0 := 0) rfl rfl) gX0_87 hdX0_isFreeIn (by decide) hl.1 rfl (Nat.le_of_ble_eq_true rfl) dX0_seek_22 ⟨Nat.zero_le _, Nat.zero_le _⟩ ?_
      refine n_bif_eq (b := fre li ba t i) (tgt := 41) S dX0_seek_25 (by decide) (fun h25 => ?_) (fun h25 => ?_)
      · refine n_iinc (lv' := [(2, .int (nI (i + 1))), (0, .ref (a 0)), (1, .int (nI t))]) (x := i) (k := 2) S dX0_seek_41 hl rfl (by decide) rfl (fun ls hl => ?_)
        refine lv_goto (tgt := 11) S.1 S.2.1 dX0_seek_44 (by decide) ?_
        exact ih (i + 1) f cx (by omega) (by omega) (by rw [skS, ← hsk]; first | (rw [h25, h33] <;> rfl) | (rw [h25] <;> rfl)) (by omega) (fun k hk => ⟨by have := (hcc k hk).1; omega, (hcc k hk).2⟩) hc5 _ _ hP hD hS ls (lv_sub hl [1, 2, 0] rfl)
      · refine lv_aload_n S.1 S.2.1 dX0_seek_28 rfl (lv_at hl 0 rfl) ?_
        refine lv_iload_n S.1 S.2.1 dX0_seek_29 rfl (lv_at hl 2 rfl) ?_
        refine rd_callV (C := RX0) (As := [.int (nI i)]) (rest := []) S (kX0_fits l dC dI cI cZ cJ a n mw f sg fo L le sc li ba cx st i hI2 (by omega)) rB_blind (fun U hU hW => ⟨by rw [hU]; exact hP, va_K.moved hW.alike hK⟩) (va_recv hK hP (ci := 0) (q0 := 0) rfl rfl) gX0_76 hdX0_fits (by decide) hl.1 rfl (Nat.le_of_ble_eq_true rfl) dX0_seek_30 ⟨Nat.zero_le _, Nat.zero_le _⟩ ?_
        refine n_bif_eq (b := fit n sg fo L le i) (tgt := 41) S dX0_seek_33 (by decide) (fun h33 => ?_) (fun h33 => ?_)
        · refine n_iinc (lv' := [(2, .int (nI (i + 1))), (0, .ref (a 0)), (1, .int (nI t))]) (x := i) (k := 2) S dX0_seek_41 hl rfl (by decide) rfl (fun ls hl => ?_)
          refine lv_goto (tgt := 11) S.1 S.2.1 dX0_seek_44 (by decide) ?_
          exact ih (i + 1) f cx (by omega) (by omega) (by rw [skS, ← hsk]; first | (rw [h25, h33] <;> rfl) | (rw [h25] <;> rfl)) (by omega) (fun k hk => ⟨by have := (hcc k hk).1; omega, (hcc k hk).2⟩) hc5 _ _ hP hD hS ls (lv_sub hl [1, 2, 0] rfl)
        · refine lv_aload_n S.1 S.2.1 dX0_seek_36 rfl (lv_at hl 0 rfl) ?_
          refine lv_iload_n S.1 S.2.1 dX0_seek_37 rfl (lv_at hl 2 rfl) ?_
          refine wr_callV (C := RX0) (As := [.int (nI i)]) (rest := []) S (kX0_addCandidate l dC dI cI cZ cJ a n mw f sg fo L le sc li ba cx st i hI2 (by omega) (by omega) (fun k hk => by rw [(hcc k hk).2]; exact (fit_le h33).symm)) hK [] [] hP hD hS rfl (va_recv hK hP (ci := 0) (q0 := 0) rfl rfl) gX0_90 hdX0_addCandidate (by decide) hl.1 rfl (Nat.le_of_ble_eq_true rfl) dX0_seek_38 ⟨Nat.zero_le _, Nat.zero_le _⟩ (fun H locs hP hD hS => ?_)
          have hP : va_P (dC, dI) vcl (vX cI cZ a n mw (f + 1) sg fo L le sc li ba (inC (ahd L sc i) i f cx) st) H := hP
          have hD : va_D (wF (vX cI cZ a n mw nf sg fo L le sc li ba ca st)) (vX cI cZ a n mw (f + 1) sg fo L le sc li ba (inC (ahd L sc i) i f cx) st) := hD
          refine n_iinc (lv' := [(2, .int (nI (i + 1))), (0, .ref (a 0)), (1, .int (nI t))]) (x := i) (k := 2) S dX0_seek_41 hl rfl (by decide) rfl (fun ls hl => ?_)
          refine lv_goto (tgt := 11) S.1 S.2.1 dX0_seek_44 (by decide) ?_
          have e0 : vX cI cZ a n mw (f + 1) sg fo L le sc li ba (inC (ahd L sc i) i f cx) st = vX cI cZ a n mw ((f + 1)) sg fo L le sc li ba ((inC (ahd L sc i) i f cx)) st := rfl
          exact ih (i + 1) (f + 1) (inC (ahd L sc i) i f cx) (by omega) (by omega) (by rw [skS, ← hsk]; first | (rw [h25, h33] <;> rfl) | (rw [h25] <;> rfl)) (by omega) (fun k hk => inC_all (P := fun x => x < i + 1 ∧ le x = n) (fun j hj => ⟨by have := (hcc j hj).1; omega, (hcc j hj).2⟩) ⟨by omega, fit_le h33⟩ k hk) (inC_any (P := fun x => x < 250) hc5 (by omega)) _ _ (by rw [← e0]; exact hP) (by rw [← e0]; exact hD) hS ls (lv_sub hl [1, 2, 0] rfl)
set_option maxRecDepth 100000 in
set_option maxHeartbeats 1000000 in
theorem kX0_seek (l : Launch) (dC : Nat → ClassId) (dI : Nat → Nat → Nat) (cI cZ cJ : ClassId) (a : Nat → Nat) (n mw nf : Nat) (sg fo L le sc li ba ca st : Nat → Nat) (t : Nat) (hI : iv n mw nf sg fo L le sc li ba ca) (ht : t < 4) : wr l yX0_seek cX0_seek 3 (some .int) 4 91 [.ref (a 0), .int (nI t)] dC dI cI cZ cJ (vX cI cZ a n mw nf sg fo L le sc li ba ca st) (vX cI cZ a n mw ((skS n sg fo L le sc li ba t ca mw).1) sg fo L le sc li ba ((skS n sg fo L le sc li ba t ca mw).2) st) (some (.int (nI ((skS n sg fo L le sc li ba t ca mw).1)))) := by
  refine wr_ofW RX0 (by decide) rfl (Nat.le_of_ble_eq_true rfl) ?_
  intro p e s m below meth c S hr hlk hK hP hD hS ls hl
  have hl : lv_has ls 3 [(0, .ref (a 0)), (1, .int (nI t))] := hl
  obtain ⟨⟨hn, hm, hf⟩, ⟨hsg, hfo, hL, hle, hsc, hli, hba, hca⟩, hv1, hv2, hv3, hv4, hv5, hv6, hv7⟩ := id hI
  refine lv_iload_n S.1 S.2.1 dX0_seek_0 rfl (lv_at hl 1 rfl) ?_
  refine rdv_callS (As := [.int (nI t)]) (rest := []) S (kX0_needList l t ht) tr_blind (fun _ _ _ => trivial) gX0_56 hdX0_needList (by decide) hl.1 rfl (Nat.le_of_ble_eq_true rfl) dX0_seek_1 ⟨Nat.zero_le _, Nat.zero_le _⟩ ?_
  refine lv_aload_n S.1 S.2.1 dX0_seek_4 rfl (lv_at hl 0 rfl) ?_
  refine lv_iconst (v := (nI 0)) S.1 S.2.1 dX0_seek_5 (by decide) ?_
  refine pX0_candidateCount S hK hP hD hS rfl (Nat.le_of_ble_eq_true rfl) dX0_seek_6 (fun H locs hP hD hS => ?_)
  have hP : va_P (dC, dI) vcl (vX cI cZ a n mw 0 sg fo L le sc li ba ca st) H := hP
  have hD : va_D (wF (vX cI cZ a n mw nf sg fo L le sc li ba ca st)) (vX cI cZ a n mw 0 sg fo L le sc li ba ca st) := hD
  refine lv_iconst (v := (nI 0)) S.1 S.2.1 dX0_seek_9 (by decide) ?_
  refine lv_istore_n (lv' := [(2, .int (nI 0)), (0, .ref (a 0)), (1, .int (nI t))]) S.1 S.2.1 dX0_seek_10 rfl hl (by decide) rfl (fun ls hl => ?_)
  exact lX0_seek_11 l dC dI cI cZ cJ a n mw nf sg fo L le sc li ba ca st t hI ht S hr hlk hK _ 0 0 ca (Nat.lt_succ_self _) (by omega) rfl (by omega) (fun k hk => absurd hk (Nat.not_lt_zero k)) hca _ _ hP hD hS ls (lv_sub hl [1, 2, 0] rfl)

set_option maxRecDepth 100000 in
set_option maxHeartbeats 1000000 in
theorem lX0_fillStock_25 (l : Launch) (dC : Nat → ClassId) (dI : Nat → Nat → Nat) (cI cZ cJ : ClassId) (a : Nat → Nat) (n mw nf : Nat) (sg fo L le sc li ba ca st : Nat → Nat) (hI : iv n mw nf sg fo L le sc li ba ca)   {p : Program} {e : Env} {s : State} {m : MethodId} {below : List Frame} {meth : Method} {c : Code}(S : CallFix p m c cX0_fillStock 4 s ([.ref (a 0)] : List Value).toArray tbG RX0) (hr : meth.sig.returnType = (some .int)) (hlk : meth.locks = false) (hK : va_K (dC, dI) vcl (vty cI cZ cJ) s) :
    ∀ (fuel : Nat) (i : Nat) (k : Nat), n - i < fuel → i ≤ n → k = cnt (fun j => decide (fsg sg fo j = 63)) i → ∀ (H : Heap) (locs : List Loc), va_P (dC, dI) vcl (vX cI cZ a n mw nf sg fo L le sc li ba ca (rcS i sg fo st)) H → va_D (wF (vX cI cZ a n mw nf sg fo L le sc li ba ca st)) (vX cI cZ a n mw nf sg fo L le sc li ba ca (rcS i sg fo st)) → va_S (wF (vX cI cZ a n mw nf sg fo L le sc li ba ca st)) s.heap H locs → ∀ ls : Array Slot, lv_has ls 4 [(0, .ref (a 0)), (1, .int (nI k)), (2, .int (nI i))] → W p l e ({ frames := 2, cells := 0, slots := 0, locals := 42 } : Room) s m ([.ref (a 0)] : List Value).toArray below meth c H locs 0 0 (MQ below (Qw dC dI (vX cI cZ a n mw nf sg fo L le sc li ba ca st) (vX cI cZ a n mw nf sg fo L le sc li ba ca (rcS n sg fo st)) (some (.int (nI (cnt (fun j => decide (fsg sg fo j = 63)) n))))) ([.ref (a 0)] : List Value).toArray s 0 0 (wF (vX cI cZ a n mw nf sg fo L le sc li ba ca st))) (F0 m 25 ls []) := by
  obtain ⟨⟨hn, hm, hf⟩, ⟨hsg, hfo, hL, hle, hsc, hli, hba, hca⟩, hv1, hv2, hv3, hv4, hv5, hv6, hv7⟩ := id hI
  intro fuel
  induction fuel with
  | zero =>
    intro i k hq
    exact absurd hq (Nat.not_lt_zero _)
  | succ fuel ih =>
    intro i k hq hi hk H locs hP hD hS ls hl
    have hki := cnt_le (fun j => decide (fsg sg fo j = 63)) i
    refine lv_iload_n S.1 S.2.1 dX0_fillStock_25 rfl (lv_at hl 2 rfl) ?_
    refine lv_aload_n S.1 S.2.1 dX0_fillStock_26 rfl (lv_at hl 0 rfl) ?_
    refine fX0_signCount (v := .int (nI n)) S hK hP rfl rfl dX0_fillStock_27 ?_
    refine n_icmp_ge (x := i) (y := n) (tgt := 70) S dX0_fillStock_30 (by decide) (by omega) (by omega) (fun h30 => ?_) (fun h30 => ?_)
    · refine lv_iload_n S.1 S.2.1 dX0_fillStock_70 rfl (lv_at hl 1 rfl) ?_
      exact wr_ret S hr hlk (rfl) (by rw [hk, show i = n by omega]) hP (by rw [show i = n by omega]) hS dX0_fillStock_71
    · refine lv_aload_n S.1 S.2.1 dX0_fillStock_33 rfl (lv_at hl 0 rfl) ?_
      refine lv_iload_n S.1 S.2.1 dX0_fillStock_34 rfl (lv_at hl 2 rfl) ?_
      refine rd_callV (C := RX0) (As := [.int (nI i)]) (rest := []) S (kX0_foldedSign l dC dI cI cZ cJ a n mw nf sg fo L le sc li ba ca (rcS i sg fo st) i (iv_r hI) (by omega)) rB_blind (fun U hU hW => ⟨by rw [hU]; exact hP, va_K.moved hW.alike hK⟩) (va_recv hK hP (ci := 0) (q0 := 0) rfl rfl) gX0_127 hdX0_foldedSign (by decide) hl.1 rfl (Nat.le_of_ble_eq_true rfl) dX0_fillStock_35 ⟨Nat.zero_le _, Nat.zero_le _⟩ ?_
      have b35 := fsg_in hI (show i < n by omega)
      refine lv_istore_n (lv' := [(3, .int (nI (fsg sg fo i))), (0, .ref (a 0)), (1, .int (nI k)), (2, .int (nI i))]) S.1 S.2.1 dX0_fillStock_38 rfl hl (by decide) rfl (fun ls hl => ?_)
      refine lv_iload_n S.1 S.2.1 dX0_fillStock_39 rfl (lv_at hl 0 rfl) ?_
      refine lv_bipush (v := (nI 63)) S.1 S.2.1 dX0_fillStock_40 (by decide) ?_
      refine n_icmp_ne (x := fsg sg fo i) (y := 63) (tgt := 51) S dX0_fillStock_42 (by decide) (by omega) (by omega) (fun h42 => ?_) (fun h42 => ?_)
      · refine lv_aload_n S.1 S.2.1 dX0_fillStock_51 rfl (lv_at hl 1 rfl) ?_
        refine fX0_stock (v := .ref (a 9)) S hK hP rfl rfl dX0_fillStock_52 ?_
        refine lv_iload_n S.1 S.2.1 dX0_fillStock_55 rfl (lv_at hl 0 rfl) ?_
        refine lv_bipush (v := (nI 97)) S.1 S.2.1 dX0_fillStock_56 (by decide) ?_
        refine n_isub (x := fsg sg fo i) (y := 97) S dX0_fillStock_58 (by omega) ?_
        refine lv_dup2_11 S.1 S.2.1 dX0_fillStock_59 rfl rfl ?_
        refine n_iald S hK hP 9 0 rfl rfl dX0_fillStock_60 (j := (fsg sg fo i) - 97) (by decide) (by omega) ?_
        refine lv_iconst (v := (nI 1)) S.1 S.2.1 dX0_fillStock_61 (by decide) ?_
        refine n_iadd (x := (rcS i sg fo st) ((fsg sg fo i) - 97)) (y := 1) S dX0_fillStock_62 ?_
        refine n_iast S hK hP hD hS 9 0 rfl rfl dX0_fillStock_63 (j := (fsg sg fo i) - 97) (x := ((rcS i sg fo st) ((fsg sg fo i) - 97)) + 1) (by decide) (by omega) (fun H locs hP hD hS => ?_)
        have hP : va_P (dC, dI) vcl (vX cI cZ a n mw nf sg fo L le sc li ba ca (va_up (rcS i sg fo st) ((fsg sg fo i) - 97) (((rcS i sg fo st) ((fsg sg fo i) - 97)) + 1))) H := hP
        have hD : va_D (wF (vX cI cZ a n mw nf sg fo L le sc li ba ca st)) (vX cI cZ a n mw nf sg fo L le sc li ba ca (va_up (rcS i sg fo st) ((fsg sg fo i) - 97) (((rcS i sg fo st) ((fsg sg fo i) - 97)) + 1))) := hD
        refine n_iinc (lv' := [(2, .int (nI (i + 1))), (3, .int (nI (fsg sg fo i))), (0, .ref (a 0)), (1, .int (nI k))]) (x := i) (k := 3) S dX0_fillStock_64 hl rfl (by decide) rfl (fun ls hl => ?_)
        refine lv_goto (tgt := 25) S.1 S.2.1 dX0_fillStock_67 (by decide) ?_
        have e0 : vX cI cZ a n mw nf sg fo L le sc li ba ca (va_up (rcS i sg fo st) ((fsg sg fo i) - 97) (((rcS i sg fo st) ((fsg sg fo i) - 97)) + 1)) = vX cI cZ a n mw nf sg fo L le sc li ba ca (rcS (i + 1) sg fo st) := (by first | rw [rcS_b h42] | rw [rcS_l (by omega)])
        exact ih (i + 1) k (by omega) (by omega) (by rw [cnt, ← hk]; first | (rw [decide_eq_true h42]; rfl) | (rw [decide_eq_false h42]; rfl)) _ _ (by rw [← e0]; exact hP) (by rw [← e0]; exact hD) hS ls (lv_sub hl [2, 3, 0] rfl)
      · refine n_iinc (lv' := [(1, .int (nI (k + 1))), (3, .int (nI (fsg sg fo i))), (0, .ref (a 0)), (2, .int (nI i))]) (x := k) (k := 2) S dX0_fillStock_45 hl rfl (by decide) rfl (fun ls hl => ?_)
        refine lv_goto (tgt := 64) S.1 S.2.1 dX0_fillStock_48 (by decide) ?_
        refine n_iinc (lv' := [(2, .int (nI (i + 1))), (1, .int (nI (k + 1))), (3, .int (nI (fsg sg fo i))), (0, .ref (a 0))]) (x := i) (k := 3) S dX0_fillStock_64 hl rfl (by decide) rfl (fun ls hl => ?_)
        refine lv_goto (tgt := 25) S.1 S.2.1 dX0_fillStock_67 (by decide) ?_
        have e0 : vX cI cZ a n mw nf sg fo L le sc li ba ca (rcS i sg fo st) = vX cI cZ a n mw nf sg fo L le sc li ba ca (rcS (i + 1) sg fo st) := (by first | rw [rcS_b h42] | rw [rcS_l (by omega)])
        exact ih (i + 1) (k + 1) (by omega) (by omega) (by rw [cnt, ← hk]; first | (rw [decide_eq_true h42]; rfl) | (rw [decide_eq_false h42]; rfl)) _ _ (by rw [← e0]; exact hP) (by rw [← e0]; exact hD) hS ls (lv_sub hl [3, 1, 0] rfl)
set_option maxRecDepth 100000 in
set_option maxHeartbeats 1000000 in
theorem lX0_fillStock_2 (l : Launch) (dC : Nat → ClassId) (dI : Nat → Nat → Nat) (cI cZ cJ : ClassId) (a : Nat → Nat) (n mw nf : Nat) (sg fo L le sc li ba ca st : Nat → Nat) (hI : iv n mw nf sg fo L le sc li ba ca)   {p : Program} {e : Env} {s : State} {m : MethodId} {below : List Frame} {meth : Method} {c : Code}(S : CallFix p m c cX0_fillStock 4 s ([.ref (a 0)] : List Value).toArray tbG RX0) (hr : meth.sig.returnType = (some .int)) (hlk : meth.locks = false) (hK : va_K (dC, dI) vcl (vty cI cZ cJ) s) :
    ∀ (fuel : Nat) (i : Nat), 26 - i < fuel → i ≤ 26 → ∀ (H : Heap) (locs : List Loc), va_P (dC, dI) vcl (vX cI cZ a n mw nf sg fo L le sc li ba ca (zrS i st)) H → va_D (wF (vX cI cZ a n mw nf sg fo L le sc li ba ca st)) (vX cI cZ a n mw nf sg fo L le sc li ba ca (zrS i st)) → va_S (wF (vX cI cZ a n mw nf sg fo L le sc li ba ca st)) s.heap H locs → ∀ ls : Array Slot, lv_has ls 4 [(0, .ref (a 0)), (1, .int (nI i))] → W p l e ({ frames := 2, cells := 0, slots := 0, locals := 42 } : Room) s m ([.ref (a 0)] : List Value).toArray below meth c H locs 0 0 (MQ below (Qw dC dI (vX cI cZ a n mw nf sg fo L le sc li ba ca st) (vX cI cZ a n mw nf sg fo L le sc li ba ca (rcS n sg fo st)) (some (.int (nI (cnt (fun j => decide (fsg sg fo j = 63)) n))))) ([.ref (a 0)] : List Value).toArray s 0 0 (wF (vX cI cZ a n mw nf sg fo L le sc li ba ca st))) (F0 m 2 ls []) := by
  obtain ⟨⟨hn, hm, hf⟩, ⟨hsg, hfo, hL, hle, hsc, hli, hba, hca⟩, hv1, hv2, hv3, hv4, hv5, hv6, hv7⟩ := id hI
  intro fuel
  induction fuel with
  | zero =>
    intro i hq
    exact absurd hq (Nat.not_lt_zero _)
  | succ fuel ih =>
    intro i hq hi H locs hP hD hS ls hl
    refine lv_iload_n S.1 S.2.1 dX0_fillStock_2 rfl (lv_at hl 1 rfl) ?_
    refine lv_bipush (v := (nI 26)) S.1 S.2.1 dX0_fillStock_3 (by decide) ?_
    refine n_icmp_ge (x := i) (y := 26) (tgt := 21) S dX0_fillStock_5 (by decide) (by omega) (by omega) (fun h5 => ?_) (fun h5 => ?_)
    · refine lv_iconst (v := (nI 0)) S.1 S.2.1 dX0_fillStock_21 (by decide) ?_
      refine lv_istore_n (lv' := [(1, .int (nI 0)), (0, .ref (a 0))]) S.1 S.2.1 dX0_fillStock_22 rfl hl (by decide) rfl (fun ls hl => ?_)
      refine lv_iconst (v := (nI 0)) S.1 S.2.1 dX0_fillStock_23 (by decide) ?_
      refine lv_istore_n (lv' := [(2, .int (nI 0)), (1, .int (nI 0)), (0, .ref (a 0))]) S.1 S.2.1 dX0_fillStock_24 rfl hl (by decide) rfl (fun ls hl => ?_)
      have e0 : vX cI cZ a n mw nf sg fo L le sc li ba ca (zrS i st) = vX cI cZ a n mw nf sg fo L le sc li ba ca (rcS 0 sg fo st) := (by rw [show i = 26 by omega]; rfl)
      exact lX0_fillStock_25 l dC dI cI cZ cJ a n mw nf sg fo L le sc li ba ca st hI S hr hlk hK _ 0 0 (Nat.lt_succ_self _) (by omega) rfl _ _ (by rw [← e0]; exact hP) (by rw [← e0]; exact hD) hS ls (lv_sub hl [2, 1, 0] rfl)
    · refine lv_aload_n S.1 S.2.1 dX0_fillStock_8 rfl (lv_at hl 0 rfl) ?_
      refine fX0_stock (v := .ref (a 9)) S hK hP rfl rfl dX0_fillStock_9 ?_
      refine lv_iload_n S.1 S.2.1 dX0_fillStock_12 rfl (lv_at hl 1 rfl) ?_
      refine lv_iconst (v := (nI 0)) S.1 S.2.1 dX0_fillStock_13 (by decide) ?_
      refine n_iast S hK hP hD hS 9 0 rfl rfl dX0_fillStock_14 (j := i) (x := 0) (by decide) (by omega) (fun H locs hP hD hS => ?_)
      have hP : va_P (dC, dI) vcl (vX cI cZ a n mw nf sg fo L le sc li ba ca (va_up (zrS i st) i 0)) H := hP
      have hD : va_D (wF (vX cI cZ a n mw nf sg fo L le sc li ba ca st)) (vX cI cZ a n mw nf sg fo L le sc li ba ca (va_up (zrS i st) i 0)) := hD
      refine n_iinc (lv' := [(1, .int (nI (i + 1))), (0, .ref (a 0))]) (x := i) (k := 1) S dX0_fillStock_15 hl rfl (by decide) rfl (fun ls hl => ?_)
      refine lv_goto (tgt := 2) S.1 S.2.1 dX0_fillStock_18 (by decide) ?_
      have e0 : vX cI cZ a n mw nf sg fo L le sc li ba ca (va_up (zrS i st) i 0) = vX cI cZ a n mw nf sg fo L le sc li ba ca (zrS (i + 1) st) := (by rw [zrS_s])
      exact ih (i + 1) (by omega) (by omega) _ _ (by rw [← e0]; exact hP) (by rw [← e0]; exact hD) hS ls (lv_sub hl [1, 0] rfl)
set_option maxRecDepth 100000 in
set_option maxHeartbeats 1000000 in
theorem kX0_fillStock (l : Launch) (dC : Nat → ClassId) (dI : Nat → Nat → Nat) (cI cZ cJ : ClassId) (a : Nat → Nat) (n mw nf : Nat) (sg fo L le sc li ba ca st : Nat → Nat) (hI : iv n mw nf sg fo L le sc li ba ca) : wr l yX0_fillStock cX0_fillStock 4 (some .int) 2 42 [.ref (a 0)] dC dI cI cZ cJ (vX cI cZ a n mw nf sg fo L le sc li ba ca st) (vX cI cZ a n mw nf sg fo L le sc li ba ca (rcS n sg fo st)) (some (.int (nI (cnt (fun j => decide (fsg sg fo j = 63)) n)))) := by
  refine wr_ofW RX0 (by decide) rfl (Nat.le_of_ble_eq_true rfl) ?_
  intro p e s m below meth c S hr hlk hK hP hD hS ls hl
  have hl : lv_has ls 4 [(0, .ref (a 0))] := hl
  obtain ⟨⟨hn, hm, hf⟩, ⟨hsg, hfo, hL, hle, hsc, hli, hba, hca⟩, hv1, hv2, hv3, hv4, hv5, hv6, hv7⟩ := id hI
  refine lv_iconst (v := (nI 0)) S.1 S.2.1 dX0_fillStock_0 (by decide) ?_
  refine lv_istore_n (lv' := [(1, .int (nI 0)), (0, .ref (a 0))]) S.1 S.2.1 dX0_fillStock_1 rfl hl (by decide) rfl (fun ls hl => ?_)
  have e0 : vX cI cZ a n mw nf sg fo L le sc li ba ca st = vX cI cZ a n mw nf sg fo L le sc li ba ca (zrS 0 st) := (by rw [zrS_0])
  exact lX0_fillStock_2 l dC dI cI cZ cJ a n mw nf sg fo L le sc li ba ca st hI S hr hlk hK _ 0 (Nat.lt_succ_self _) (by omega) _ _ (by rw [← e0]; exact hP) (by rw [← e0]; exact hD) hS ls (lv_sub hl [1, 0] rfl)
end
section
/-! ===== methods that write, and leave a scratch row as it may be ===== -/
def QwE (dC : Nat → ClassId) (dI : Nat → Nat → Nat) {Z : Type} (ws : va_W) (ws' : Z → va_W) (ov : Option Value) : Array Value → State → Outcome → State → Prop := fun _ st o t => o = .returned ov ∧ (∃ z : Z, va_P (dC, dI) vcl (ws' z) t.heap) ∧ va_F (wF ws) st t
abbrev wrE (l : Launch) (y : MethodName) (cc : ByteArray) (nL : Nat) (ret : Option FieldType) (fr lo : Nat) (av : List Value) (dC : Nat → ClassId) (dI : Nat → Nat → Nat) (cI cZ cJ : ClassId) {Z : Type} (ws : va_W) (ws' : Z → va_W) (ov : Option Value) : Prop :=
  Met l y (wT y cc nL ret) ({ frames := fr, cells := 0, slots := 0, locals := lo }) (va_Pc av (wB dC dI cI cZ cJ ws)) (QwE dC dI ws ws' ov) 0 0 (wF ws)
theorem wrE_ofW {l : Launch} {y : MethodName} {cc : ByteArray} {nL fr lo : Nat} {ret : Option FieldType} {av : List Value} {dC : Nat → ClassId} {dI : Nat → Nat → Nat} {cI cZ cJ : ClassId} {Z : Type} {ws : va_W} {ws' : Z → va_W} {ov : Option Value} (own : String) (hy : plainName y.cls = true) (ho : y.cls = own) (hn : (lg_sl av).length ≤ nL)
    (body : ∀ (p : Program) (e : Env) (s : State) (m : MethodId) (below : List Frame) (meth : Method) (c : Code), CallFix p m c cc nL s av.toArray tbG own → meth.sig.returnType = ret → meth.locks = false → va_K (dC, dI) vcl (vty cI cZ cJ) s → va_P (dC, dI) vcl ws s.heap → va_D (wF ws) ws → va_S (wF ws) s.heap s.heap [] → ∀ ls : Array Slot, lv_has ls nL (lv_args 0 av) →
      W p l e ({ frames := fr, cells := 0, slots := 0, locals := lo } : Room) s m av.toArray below meth c s.heap [] 0 0 (MQ below (QwE dC dI ws ws' ov) av.toArray s 0 0 (wF ws)) (F0 m 0 ls [])) : wrE l y cc nL ret fr lo av dC dI cI cZ cJ ws ws' ov := by
  refine Met.ofW (cc := cc) (maxL := nL) (ret := ret) hy rfl ?_
  intro p e s m args below meth c s₁ B0 hml hv
  obtain ⟨rfl, hP, hK, hD⟩ := hv
  have hts := atoms_spec (ws := wT y cc nL ret) B0.pre
  have hown : s.vm.findClass own = some m.cls := by rw [← ho]; exact findClass_of_methodNamed B0.named
  have hl := lv_entry av (n := nL) hn
  rw [lg_entry_eq]
  generalize (lg_sl av ++ List.replicate (nL - (lg_sl av).length) Slot.unset).toArray = ls at hl ⊢
  exact body p e s m below meth c ⟨B0.exec, B0.bytes, hml, hown, fun w hw => hts w (List.mem_cons_of_mem _ hw)⟩ B0.returns B0.notSynchronized hK hP hD.own va_S.rf ls hl
section WE
variable {p : Program} {l : Launch} {e : Env} {R : Room} {s : State} {m : MethodId} {args : Array Value} {below : List Frame} {meth : Method} {c : Code} {H : Heap} {locs : List Loc} {cells slots : Nat} {Q : State → Prop}
variable {cc : ByteArray} {pc nL : Nat} {ls : Array Slot} {rest : List Value} {own : String} {dC : Nat → ClassId} {dI : Nat → Nat → Nat} {cI cZ cJ : ClassId} {Z : Type} {ws ws1 u v : va_W} {ws' : Z → va_W} {A : Nat → Prop}
theorem wrE_ret {x r : Int32} {ty : FieldType} {z : Z} (S : CallFix p m c cc nL s args tbG own) (hr : meth.sig.returnType = some ty) (hlk : meth.locks = false) (hn : narrow ty (.int x) = .int x) (hv : x = r) (hP : va_P (dC, dI) vcl ws1 H) (he : ws1 = ws' z) (hS : va_S (wF ws) s.heap H locs) (hdg : decode cc pc = .ok (.ireturn, 1)) :
    W p l e R s m args below meth c H locs cells slots (MQ below (QwE dC dI ws ws' (some (.int r))) args s cells slots (wF ws)) (F0 m pc ls [.int x]) :=
  W.zret (hlocks := hlk) S.1 S.2.1 hr hn (fun t ht _ => ⟨by rw [hv], ⟨z, by rw [ht, ← he]; exact hP⟩, hS.F ht⟩) hS.2.2 hdg
theorem wrE_back {a : Array Value} {st0 : List Value} {ov : Option Value} {H0 : Heap} (hr : va_Run p l e R s m args below meth c H locs cells slots 0 0 (F0 m pc ls st0) rest (QwE dC dI ws ws' ov a) (wF ws)) (hP : va_P (dC, dI) vcl (u ++ (ws ++ v)) H) (hD : va_D A (u ++ (ws ++ v))) (hS : va_S A H0 H locs) (ha : ∀ z, (ws' z).map Prod.fst = ws.map Prod.fst)
    (kk : ∀ (z : Z) (H1 : Heap) (locs1 : List Loc), va_P (dC, dI) vcl (u ++ (ws' z ++ v)) H1 → va_D A (u ++ (ws' z ++ v)) → va_S A H0 H1 locs1 → W p l e R s m args below meth c H1 locs1 cells slots Q (F0 m (pc + 3) ls (ov.toList ++ rest))) : W p l e R s m args below meth c H locs cells slots Q (F0 m pc ls st0) := by
  have hA : ∀ q, wF ws q → A q := by
    rintro q ⟨k, e, hk⟩
    have hk' : k < ws.length := (List.getElem?_eq_some_iff.mp hk).1
    refine hD.2 (u.length + k) (q, e) ?_
    rw [List.getElem?_append_right (by omega), Nat.add_sub_cancel_left, List.getElem?_append_left hk']
    exact hk
  intro T hT X
  obtain ⟨x, st₀, t, T', L, h0, X', hL, e1, e2, ⟨hv, ⟨z, hP1⟩, hz, hk⟩, st⟩ := hr T hT X
  cases hv
  rw [h0] at hz hk
  obtain ⟨j1, j2⟩ := wr_join hP hD (ha z) hP1 (fun q h1 h2 => hk q h1 h2)
  obtain ⟨t2, a1, b1⟩ := kk z T'.heap (locs ++ L) (by rw [e1]; exact j1) j2
    ⟨Nat.le_trans hS.1 (by rw [e1]; exact hz), fun q h1 h2 => by rw [e1, hk q (Nat.lt_of_lt_of_le h1 hS.1) (fun z => h2 (hA q z))]; exact hS.2.1 q h1 h2, fun q hq => by
      rcases List.mem_append.mp hq with h | h
      · exact hS.2.2 q h
      · exact hA _ (hL q h)⟩ T' rfl X'
  exact ⟨t2, st t2 a1, b1⟩
theorem wrE_callV {y : MethodName} {bytes : ByteArray} {maxL index fr lo b : Nat} {ret : Option FieldType} {As : List Value} {ov : Option Value} {st : List Value} {C : String} {H0 : Heap} (S : CallFix p m c cc nL s args tbG own) (hM : wrE l y bytes maxL ret fr lo (.ref b :: As) dC dI cI cZ cJ ws ws' ov)
    (hK : va_K (dC, dI) vcl (vty cI cZ cJ) s) (u v : va_W) (hP : va_P (dC, dI) vcl (u ++ (ws ++ v)) H) (hD : va_D A (u ++ (ws ++ v))) (hS : va_S A H0 H locs) (ha : ∀ z, (ws' z).map Prod.fst = ws.map Prod.fst)
    (hcl : ∃ cellB : Cell, H[b]? = some cellB ∧ cellB.vm.isStatics = false ∧ s.vm.findClass C = some cellB.cls)
    (hG : GoodIn tbG (wsV own index C y (wT y bytes maxL ret))) (hd : y.cls = C ∧ y.cls ≠ "java/lang/invoke/MethodHandle" ∧ y.cls ≠ "java/lang/invoke/VarHandle" ∧ (parseMethodDescriptor y.desc).map (fun d => d.parameters.length) = some As.length) (hR : fr + 1 ≤ R.frames ∧ 8 + (maxL + 11) + lo ≤ R.locals)
    (hls : ls.size = nL) (hst : st = As.reverse ++ .ref b :: rest) (hW : (rest.map fun v => v.category).sum ≤ 8) (hdg : decode cc pc = .ok (.invokevirtual index, 3)) (hf : cells ≤ R.cells ∧ slots ≤ R.slots)
    (kk : ∀ (z : Z) (H1 : Heap) (locs1 : List Loc), va_P (dC, dI) vcl (u ++ (ws' z ++ v)) H1 → va_D A (u ++ (ws' z ++ v)) → va_S A H0 H1 locs1 → W p l e R s m args below meth c H1 locs1 cells slots Q (F0 m (pc + 3) ls (ov.toList ++ rest))) : W p l e R s m args below meth c H locs cells slots Q (F0 m pc ls st) := by
  subst hst
  exact wrE_back (va_runV (rest := rest) S hM (cwV As.length S.2.2.2.2 hG rfl rfl rfl hd hR) ⟨wB_blind, hcl, fun U hU hW => ⟨rfl, by rw [hU]; exact wr_sub hP, va_K.moved hW.alike hK, wr_subD hD⟩⟩ rfl rfl hls rfl (lv_room hW) hdg ⟨hf.1, hf.2⟩) hP hD hS ha kk
end WE
/-! counts: how the letters of a word and those of the row stand to each other -/
def wcn (L : Nat → Nat) (w i k : Nat) : Nat := cnt (fun j => decide (L (15 * w + j) = 97 + k)) i
def rcn (sg fo : Nat → Nat) (n k : Nat) : Nat := cnt (fun j => decide (fsg sg fo j = 97 + k)) n
theorem smm_congr {f g : Nat → Nat} {b : Nat} (h : ∀ k, k < b → f k = g k) : smm f b = smm g b := by
  induction b with
  | zero => rfl
  | succ b ih => rw [smm, smm, ih (fun k hk => h k (by omega)), h b (by omega)]
theorem smm_one {f g : Nat → Nat} {b x : Nat} (hx : x < b) (h1 : f x = g x + 1) (h2 : ∀ k, k ≠ x → f k = g k) : smm f b = smm g b + 1 := by
  induction b with
  | zero => omega
  | succ b ih =>
    rw [smm, smm]
    by_cases q : x = b
    · subst q
      rw [smm_congr (f := f) (g := g) (fun k hk => h2 k (by omega)), h1]; omega
    · rw [ih (by omega), h2 b (fun z => q z.symm)]; omega
theorem smm_add (f g : Nat → Nat) (b : Nat) : smm (fun k => f k + g k) b = smm f b + smm g b := by
  induction b with
  | zero => rfl
  | succ b ih => rw [smm, smm, smm, ih]; omega
theorem smm_zero {f : Nat → Nat} {b : Nat} : smm f b = 0 ↔ ∀ k, k < b → f k = 0 := by
  induction b with
  | zero => exact ⟨fun _ k hk => by omega, fun _ => rfl⟩
  | succ b ih =>
    rw [smm]
    constructor
    · intro h k hk
      by_cases q : k = b
      · subst q; omega
      · exact ih.mp (by omega) k (by omega)
    · intro h
      rw [ih.mpr (fun k hk => h k (by omega)), h b (by omega)]
/-- all letters of a row of n letters, counted one kind after the other -/
theorem smm_cnt {f : Nat → Nat} {n : Nat} (h : ∀ j, j < n → 97 ≤ f j ∧ f j ≤ 122) : smm (fun k => cnt (fun j => decide (f j = 97 + k)) n) 26 = n := by
  induction n with
  | zero => exact smm_zero.mpr (fun k _ => rfl)
  | succ n ih =>
    have hn := h n (by omega)
    rw [smm_one (g := fun k => cnt (fun j => decide (f j = 97 + k)) n) (x := f n - 97) (by omega) ?_ ?_, ih (fun j hj => h j (by omega))]
    · show cnt _ (n + 1) = _
      rw [cnt, decide_eq_true (by omega)]; rfl
    · intro k hk
      show cnt _ (n + 1) = _
      rw [cnt, decide_eq_false (by omega)]; rfl
theorem smm_cntb {f : Nat → Nat} {n : Nat} (h : ∀ j, j < n → f j = 63 ∨ (97 ≤ f j ∧ f j ≤ 122)) : smm (fun k => cnt (fun j => decide (f j = 97 + k)) n) 26 + cnt (fun j => decide (f j = 63)) n = n := by
  induction n with
  | zero =>
    show smm _ 26 + 0 = 0
    exact smm_zero.mpr (fun k _ => rfl)
  | succ n ih =>
    have i1 := ih (fun j hj => h j (by omega))
    rcases h n (by omega) with hn | hn
    · rw [smm_congr (g := fun k => cnt (fun j => decide (f j = 97 + k)) n) (fun k _ => by show cnt _ (n + 1) = _; rw [cnt, decide_eq_false (by omega)]; rfl), cnt, decide_eq_true hn]
      show _ + (_ + 1) = _
      omega
    · rw [smm_one (g := fun k => cnt (fun j => decide (f j = 97 + k)) n) (x := f n - 97) (by omega) ?_ ?_, cnt, decide_eq_false (by omega)]
      · show _ + 1 + (_ + 0) = _
        omega
      · show cnt _ (n + 1) = _
        rw [cnt, decide_eq_true (by omega)]; rfl
      · intro k hk
        show cnt _ (n + 1) = _
        rw [cnt, decide_eq_false (by omega)]; rfl
/-- the word has just the row's letters in some order, a blank for any -/
def mxd (n : Nat) (sg fo L le : Nat → Nat) (w : Nat) : Bool := decide (le w = n) && (List.range 26).all (fun k => decide (rcn sg fo n k ≤ wcn L w n k))
theorem mxd_t {n : Nat} {sg fo L le : Nat → Nat} {w : Nat} (hl : le w = n) (h : ∀ k, k < 26 → rcn sg fo n k ≤ wcn L w n k) : mxd n sg fo L le w = true := by
  rw [mxd, decide_eq_true hl, Bool.true_and, List.all_eq_true]
  intro k hk
  exact decide_eq_true (h k (List.mem_range.mp hk))
theorem mxd_f {n : Nat} {sg fo L le : Nat → Nat} {w k : Nat} (hk : k < 26) (h : ¬ rcn sg fo n k ≤ wcn L w n k) : mxd n sg fo L le w = false := by
  rw [mxd, Bool.and_eq_false_iff]
  right
  rw [List.all_eq_false]
  exact ⟨k, List.mem_range.mpr hk, by rw [decide_eq_false h]; decide⟩
theorem mxd_l {n : Nat} {sg fo L le : Nat → Nat} {w : Nat} (hl : le w ≠ n) : mxd n sg fo L le w = false := by
  rw [mxd, decide_eq_false hl]; rfl
theorem mxd_n {n : Nat} {sg fo L le : Nat → Nat} {w : Nat} (h : ¬ ∀ k, k < 26 → rcn sg fo n k ≤ wcn L w n k) : mxd n sg fo L le w = false := by
  obtain ⟨k, hk⟩ := Classical.not_forall.mp h
  obtain ⟨h1, h2⟩ := Classical.not_imp.mp hk
  exact mxd_f h1 h2
theorem mx_key {n mw nf : Nat} {sg fo L le sc li ba ca : Nat → Nat} (hI : iv n mw nf sg fo L le sc li ba ca) {w : Nat} (hw : w < mw) (hl : le w = n) : (smm (fun k => wcn L w n k - rcn sg fo n k) 26 ≤ cnt (fun j => decide (fsg sg fo j = 63)) n) ↔ ∀ k, k < 26 → rcn sg fo n k ≤ wcn L w n k := by
  obtain ⟨⟨hn, hm, hf⟩, ⟨hsg, hfo, hL, hle, hsc, hli, hba, hca⟩, hv1, hv2, hv3, hv4, hv5, hv6, hv7⟩ := id hI
  have e1 : smm (fun k => wcn L w n k) 26 = n := smm_cnt (f := fun j => L (15 * w + j)) (fun j hj => ⟨hv4 w j hw (by omega), hL _⟩)
  have e2 : smm (fun k => rcn sg fo n k) 26 + cnt (fun j => decide (fsg sg fo j = 63)) n = n := smm_cntb (fun j hj => fsg_in hI hj)
  have e3 : smm (fun k => (wcn L w n k - rcn sg fo n k) + rcn sg fo n k) 26 = smm (fun k => (rcn sg fo n k - wcn L w n k) + wcn L w n k) 26 := smm_congr (fun k _ => by omega)
  rw [smm_add (fun k => wcn L w n k - rcn sg fo n k) (fun k => rcn sg fo n k), smm_add (fun k => rcn sg fo n k - wcn L w n k) (fun k => wcn L w n k)] at e3
  constructor
  · intro h k hk
    have z : smm (fun k => rcn sg fo n k - wcn L w n k) 26 = 0 := by omega
    have := smm_zero.mp z k hk
    have : rcn sg fo n k - wcn L w n k = 0 := this
    omega
  · intro h
    have z : smm (fun k => rcn sg fo n k - wcn L w n k) 26 = 0 := smm_zero.mpr (fun k hk => by have := h k hk; show rcn sg fo n k - wcn L w n k = 0; omega)
    omega
end
section
/-! ===== the class: mixed ===== -/
theorem nI_dn (b d : Nat) : (nI b - nI d) + Int32.ofInt (-1) = nI b - nI (d + 1) := by
  have e1 : Int32.ofInt (-1) = -(1 : Int32) := by decide
  rw [e1, nI_succ, Int32.sub_eq_add_neg, Int32.sub_eq_add_neg, Int32.neg_add, Int32.sub_eq_add_neg (-nI d), ← Int32.add_assoc]
theorem iz_ge {b d : Nat} (h : ¬ nI b - nI d < 0) (hb : b < 2 ^ 30) (hd : d < 2 ^ 30) : d ≤ b := by
  rw [Int32.lt_iff_toInt_lt, pk_sub_toInt hb hd, Int32.toInt_zero] at h
  omega
theorem iz_ng {b d : Nat} (h : nI b - nI d < 0) (hb : b < 2 ^ 30) (hd : d < 2 ^ 30) : ¬ d ≤ b := by
  rw [Int32.lt_iff_toInt_lt, pk_sub_toInt hb hd, Int32.toInt_zero] at h
  omega
/-- what is left of the row's letters when the first i letters of word w took theirs -/
def skW (n : Nat) (sg fo L : Nat → Nat) (w i : Nat) (st : Nat → Nat) : Nat → Nat := fun k => if k < 26 then rcn sg fo n k - wcn L w i k else st k
theorem skW_0 {n : Nat} {sg fo L st : Nat → Nat} {w : Nat} : rcS n sg fo st = skW n sg fo L w 0 st := by
  funext k
  rw [rcS, skW]
  split
  · rfl
  · rfl
theorem skW_le {n : Nat} {sg fo L st : Nat → Nat} {w i k : Nat} (h : k < 26) : skW n sg fo L w i st k ≤ n := by
  rw [skW, if_pos h]
  have := cnt_le (fun j => decide (fsg sg fo j = 97 + k)) n
  have e1 : rcn sg fo n k ≤ n := this
  omega
theorem wcn_s {L : Nat → Nat} {w i k : Nat} (h : L (15 * w + i) = 97 + k) : wcn L w (i + 1) k = wcn L w i k + 1 := by
  rw [wcn, cnt, decide_eq_true h]; rfl
theorem wcn_o {L : Nat → Nat} {w i k : Nat} (h : ¬ L (15 * w + i) = 97 + k) : wcn L w (i + 1) k = wcn L w i k := by
  rw [wcn, cnt, decide_eq_false h]; rfl
theorem skW_t {n : Nat} {sg fo L st : Nat → Nat} {w i : Nat} (h : 97 ≤ L (15 * w + i) ∧ L (15 * w + i) ≤ 122) (h0 : 0 < skW n sg fo L w i st (L (15 * w + i) - 97)) : va_up (skW n sg fo L w i st) (L (15 * w + i) - 97) (skW n sg fo L w i st (L (15 * w + i) - 97) - 1) = skW n sg fo L w (i + 1) st := by
  funext k
  by_cases q : k = L (15 * w + i) - 97
  · subst q
    rw [va_up_self, skW, skW, if_pos (by omega), if_pos (by omega), wcn_s (by omega)]; omega
  · rw [va_up_ne _ _ q, skW, skW]
    split
    · rw [wcn_o (by omega)]
    · rfl
theorem skW_f {n : Nat} {sg fo L st : Nat → Nat} {w i : Nat} (h : 97 ≤ L (15 * w + i) ∧ L (15 * w + i) ≤ 122) (h0 : skW n sg fo L w i st (L (15 * w + i) - 97) = 0) : skW n sg fo L w i st = skW n sg fo L w (i + 1) st := by
  funext k
  by_cases q : k = L (15 * w + i) - 97
  · subst q
    rw [h0]
    rw [skW, if_pos (by omega)] at h0
    rw [skW, if_pos (by omega), wcn_s (by omega)]; omega
  · rw [skW, skW]
    split
    · rw [wcn_o (by omega)]
    · rfl
theorem mx_t {n : Nat} {sg fo L st : Nat → Nat} {w i : Nat} (h : 97 ≤ L (15 * w + i) ∧ L (15 * w + i) ≤ 122) (h0 : 0 < skW n sg fo L w i st (L (15 * w + i) - 97)) : smm (fun k => wcn L w (i + 1) k - rcn sg fo n k) 26 = smm (fun k => wcn L w i k - rcn sg fo n k) 26 := by
  rw [skW, if_pos (by omega)] at h0
  refine smm_congr (fun k hk => ?_)
  by_cases q : k = L (15 * w + i) - 97
  · subst q
    rw [wcn_s (by omega)]; omega
  · rw [wcn_o (by omega)]
theorem mx_f {n : Nat} {sg fo L st : Nat → Nat} {w i : Nat} (h : 97 ≤ L (15 * w + i) ∧ L (15 * w + i) ≤ 122) (h0 : skW n sg fo L w i st (L (15 * w + i) - 97) = 0) : smm (fun k => wcn L w (i + 1) k - rcn sg fo n k) 26 = smm (fun k => wcn L w i k - rcn sg fo n k) 26 + 1 := by
  rw [skW, if_pos (by omega)] at h0
  refine smm_one (x := L (15 * w + i) - 97) (by omega) ?_ (fun k hk => ?_)
  · rw [wcn_s (by omega)]; omega
  · rw [wcn_o (by omega)]
def mxP (n : Nat) (sg fo L le li ba : Nat → Nat) (t w : Nat) : Bool := fre li ba t w && mxd n sg fo L le w
set_option maxRecDepth 100000 in
set_option maxHeartbeats 1000000 in
theorem lX0_isRowInSomeOrder_22 (l : Launch) (dC : Nat → ClassId) (dI : Nat → Nat → Nat) (cI cZ cJ : ClassId) (a : Nat → Nat) (n mw nf : Nat) (sg fo L le sc li ba ca st : Nat → Nat) (w : Nat) (hI : iv n mw nf sg fo L le sc li ba ca) (hw : w < mw)   {p : Program} {e : Env} {s : State} {m : MethodId} {below : List Frame} {meth : Method} {c : Code}(S : CallFix p m c cX0_isRowInSomeOrder 5 s ([.ref (a 0), .int (nI w)] : List Value).toArray tbG RX0) (hr : meth.sig.returnType = (some .boolean)) (hlk : meth.locks = false) (hK : va_K (dC, dI) vcl (vty cI cZ cJ) s) :
    ∀ (fuel : Nat) (b : Nat) (d : Nat) (i : Nat), n - i < fuel → le w = n → b = (cnt (fun j => decide (fsg sg fo j = 63)) n) → i ≤ n → d = smm (fun k => wcn L w i k - rcn sg fo n k) 26 → d ≤ i → ∀ (H : Heap) (locs : List Loc), va_P (dC, dI) vcl (vX cI cZ a n mw nf sg fo L le sc li ba ca (skW n sg fo L w i st)) H → va_D (wF (vX cI cZ a n mw nf sg fo L le sc li ba ca st)) (vX cI cZ a n mw nf sg fo L le sc li ba ca (skW n sg fo L w i st)) → va_S (wF (vX cI cZ a n mw nf sg fo L le sc li ba ca st)) s.heap H locs → ∀ ls : Array Slot, lv_has ls 5 [(0, .ref (a 0)), (1, .int (nI w)), (2, .int (nI b - nI d)), (3, .int (nI i))] → W p l e ({ frames := 3, cells := 0, slots := 0, locals := 65 } : Room) s m ([.ref (a 0), .int (nI w)] : List Value).toArray below meth c H locs 0 0 (MQ below (QwE dC dI (vX cI cZ a n mw nf sg fo L le sc li ba ca st) (fun z => vX cI cZ a n mw nf sg fo L le sc li ba ca z) (some (.int (nI (mxd n sg fo L le w).toNat)))) ([.ref (a 0), .int (nI w)] : List Value).toArray s 0 0 (wF (vX cI cZ a n mw nf sg fo L le sc li ba ca st))) (F0 m 22 ls []) := by
  obtain ⟨⟨hn, hm, hf⟩, ⟨hsg, hfo, hL, hle, hsc, hli, hba, hca⟩, hv1, hv2, hv3, hv4, hv5, hv6, hv7⟩ := id hI
  intro fuel
  induction fuel with
  | zero =>
    intro b d i hq
    exact absurd hq (Nat.not_lt_zero _)
  | succ fuel ih =>
    intro b d i hq hl0 eb hi ed hd H locs hP hD hS ls hl
    have hb1 : b ≤ n := by rw [eb]; exact cnt_le _ n
    refine lv_iload_n S.1 S.2.1 dX0_isRowInSomeOrder_22 rfl (lv_at hl 3 rfl) ?_
    refine lv_aload_n S.1 S.2.1 dX0_isRowInSomeOrder_23 rfl (lv_at hl 0 rfl) ?_
    refine fX0_signCount (v := .int (nI n)) S hK hP rfl rfl dX0_isRowInSomeOrder_24 ?_
    refine n_icmp_ge (x := i) (y := n) (tgt := 86) S dX0_isRowInSomeOrder_27 (by decide) (by omega) (by omega) (fun h27 => ?_) (fun h27 => ?_)
    · have ed2 : d = smm (fun k => wcn L w n k - rcn sg fo n k) 26 := by rw [ed, show i = n by omega]
      refine lv_iload_n S.1 S.2.1 dX0_isRowInSomeOrder_86 rfl (lv_at hl 2 rfl) ?_
      refine lv_if_lt (tgt := 94) S.1 S.2.1 dX0_isRowInSomeOrder_87 (by decide) (fun h87 => ?_) (fun h87 => ?_)
      · refine lv_iconst (v := (nI 0)) S.1 S.2.1 dX0_isRowInSomeOrder_94 (by decide) ?_
        exact wrE_ret (z := (skW n sg fo L w i st)) S hr hlk (rfl) (by first | (rw [mxd_t hl0 ((mx_key hI hw hl0).mp (by rw [← ed2, ← eb]; exact iz_ge h87 (by omega) (by omega)))]; rfl) | (rw [mxd_n (fun q => iz_ng h87 (by omega) (by omega) (by rw [ed2, eb]; exact (mx_key hI hw hl0).mpr q))]; rfl)) hP (rfl) hS dX0_isRowInSomeOrder_95
      · refine lv_iconst (v := (nI 1)) S.1 S.2.1 dX0_isRowInSomeOrder_90 (by decide) ?_
        refine lv_goto (tgt := 95) S.1 S.2.1 dX0_isRowInSomeOrder_91 (by decide) ?_
        exact wrE_ret (z := (skW n sg fo L w i st)) S hr hlk (rfl) (by first | (rw [mxd_t hl0 ((mx_key hI hw hl0).mp (by rw [← ed2, ← eb]; exact iz_ge h87 (by omega) (by omega)))]; rfl) | (rw [mxd_n (fun q => iz_ng h87 (by omega) (by omega) (by rw [ed2, eb]; exact (mx_key hI hw hl0).mpr q))]; rfl)) hP (rfl) hS dX0_isRowInSomeOrder_95
    · refine lv_aload_n S.1 S.2.1 dX0_isRowInSomeOrder_30 rfl (lv_at hl 0 rfl) ?_
      refine lv_iload_n S.1 S.2.1 dX0_isRowInSomeOrder_31 rfl (lv_at hl 1 rfl) ?_
      refine lv_iload_n S.1 S.2.1 dX0_isRowInSomeOrder_32 rfl (lv_at hl 3 rfl) ?_
      refine rd_callV (C := RX0) (As := [.int (nI w), .int (nI i)]) (rest := []) S (kX0_letterOrNone l dC dI cI cZ cJ a n mw nf sg fo L le sc li ba ca (skW n sg fo L w i st) w (nI i) hI (by omega)) rB_blind (fun U hU hW => ⟨by rw [hU]; exact hP, va_K.moved hW.alike hK⟩) (va_recv hK hP (ci := 0) (q0 := 0) rfl rfl) gX0_100 hdX0_letterOrNone (by decide) hl.1 rfl (Nat.le_of_ble_eq_true rfl) dX0_isRowInSomeOrder_33 ⟨Nat.zero_le _, Nat.zero_le _⟩ ?_
      rw [lon_in (by omega) (hle w)]
      have b33 := hL (15 * w + i)
      have c33 := hv4 w i hw (by omega)
      refine lv_bipush (v := (nI 97)) S.1 S.2.1 dX0_isRowInSomeOrder_36 (by decide) ?_
      refine n_isub (x := L (15 * w + i)) (y := 97) S dX0_isRowInSomeOrder_38 (by omega) ?_
      refine lv_istore (lv' := [(4, .int (nI ((L (15 * w + i)) - 97))), (0, .ref (a 0)), (1, .int (nI w)), (2, .int (nI b - nI d)), (3, .int (nI i))]) S.1 S.2.1 dX0_isRowInSomeOrder_39 hl (by decide) rfl (fun ls hl => ?_)
      refine lv_iload S.1 S.2.1 dX0_isRowInSomeOrder_41 (lv_at hl 0 rfl) ?_
      refine n_if_lt (x := (L (15 * w + i)) - 97) (tgt := 77) S dX0_isRowInSomeOrder_43 (by decide) (by omega) ?_
      refine lv_iload S.1 S.2.1 dX0_isRowInSomeOrder_46 (lv_at hl 0 rfl) ?_
      refine lv_bipush (v := (nI 26)) S.1 S.2.1 dX0_isRowInSomeOrder_48 (by decide) ?_
      refine n_icmp_ge (x := (L (15 * w + i)) - 97) (y := 26) (tgt := 77) S dX0_isRowInSomeOrder_50 (by decide) (by omega) (by omega) (fun h50 => ?_) (fun h50 => ?_)
      · exact absurd h50 (by omega)
      · refine lv_aload_n S.1 S.2.1 dX0_isRowInSomeOrder_53 rfl (lv_at hl 1 rfl) ?_
        refine fX0_stock (v := .ref (a 9)) S hK hP rfl rfl dX0_isRowInSomeOrder_54 ?_
        refine lv_iload S.1 S.2.1 dX0_isRowInSomeOrder_57 (lv_at hl 0 rfl) ?_
        refine n_iald S hK hP 9 0 rfl rfl dX0_isRowInSomeOrder_59 (j := (L (15 * w + i)) - 97) (by decide) (by omega) ?_
        have b59 := skW_le (sg := sg) (fo := fo) (n := n) (L := L) (w := w) (i := i) (st := st) (show L (15 * w + i) - 97 < 26 by omega)
        refine n_if_le (x := (skW n sg fo L w i st) ((L (15 * w + i)) - 97)) (tgt := 77) S dX0_isRowInSomeOrder_60 (by decide) (by omega) (fun h60 => ?_) (fun h60 => ?_)
        · refine lv_iinc (v := nI b - nI (d + 1)) (lv' := [(2, .int (nI b - nI (d + 1))), (4, .int (nI ((L (15 * w + i)) - 97))), (0, .ref (a 0)), (1, .int (nI w)), (3, .int (nI i))]) (k := 3) S.1 S.2.1 dX0_isRowInSomeOrder_77 hl rfl (nI_dn b d) (by decide) rfl (fun ls hl => ?_)
          refine n_iinc (lv' := [(3, .int (nI (i + 1))), (2, .int (nI b - nI (d + 1))), (4, .int (nI ((L (15 * w + i)) - 97))), (0, .ref (a 0)), (1, .int (nI w))]) (x := i) (k := 4) S dX0_isRowInSomeOrder_80 hl rfl (by decide) rfl (fun ls hl => ?_)
          refine lv_goto (tgt := 22) S.1 S.2.1 dX0_isRowInSomeOrder_83 (by decide) ?_
          have e0 : vX cI cZ a n mw nf sg fo L le sc li ba ca (skW n sg fo L w i st) = vX cI cZ a n mw nf sg fo L le sc li ba ca (skW n sg fo L w (i + 1) st) := (by rw [skW_f (show 97 ≤ L (15 * w + i) ∧ L (15 * w + i) ≤ 122 by omega) h60])
          exact ih b (d + 1) (i + 1) (by omega) hl0 eb (by omega) (by rw [ed]; exact (mx_f (show 97 ≤ L (15 * w + i) ∧ L (15 * w + i) ≤ 122 by omega) h60).symm) (by omega) _ _ (by rw [← e0]; exact hP) (by rw [← e0]; exact hD) hS ls (lv_sub hl [3, 4, 1, 0] rfl)
        · refine lv_aload_n S.1 S.2.1 dX0_isRowInSomeOrder_63 rfl (lv_at hl 1 rfl) ?_
          refine fX0_stock (v := .ref (a 9)) S hK hP rfl rfl dX0_isRowInSomeOrder_64 ?_
          refine lv_iload S.1 S.2.1 dX0_isRowInSomeOrder_67 (lv_at hl 0 rfl) ?_
          refine lv_dup2_11 S.1 S.2.1 dX0_isRowInSomeOrder_69 rfl rfl ?_
          refine n_iald S hK hP 9 0 rfl rfl dX0_isRowInSomeOrder_70 (j := (L (15 * w + i)) - 97) (by decide) (by omega) ?_
          refine lv_iconst (v := (nI 1)) S.1 S.2.1 dX0_isRowInSomeOrder_71 (by decide) ?_
          refine n_isub (x := (skW n sg fo L w i st) ((L (15 * w + i)) - 97)) (y := 1) S dX0_isRowInSomeOrder_72 h60 ?_
          refine n_iast S hK hP hD hS 9 0 rfl rfl dX0_isRowInSomeOrder_73 (j := (L (15 * w + i)) - 97) (x := ((skW n sg fo L w i st) ((L (15 * w + i)) - 97)) - 1) (by decide) (by omega) (fun H locs hP hD hS => ?_)
          have hP : va_P (dC, dI) vcl (vX cI cZ a n mw nf sg fo L le sc li ba ca (va_up (skW n sg fo L w i st) ((L (15 * w + i)) - 97) (((skW n sg fo L w i st) ((L (15 * w + i)) - 97)) - 1))) H := hP
          have hD : va_D (wF (vX cI cZ a n mw nf sg fo L le sc li ba ca st)) (vX cI cZ a n mw nf sg fo L le sc li ba ca (va_up (skW n sg fo L w i st) ((L (15 * w + i)) - 97) (((skW n sg fo L w i st) ((L (15 * w + i)) - 97)) - 1))) := hD
          refine lv_goto (tgt := 80) S.1 S.2.1 dX0_isRowInSomeOrder_74 (by decide) ?_
          refine n_iinc (lv' := [(3, .int (nI (i + 1))), (4, .int (nI ((L (15 * w + i)) - 97))), (0, .ref (a 0)), (1, .int (nI w)), (2, .int (nI b - nI d))]) (x := i) (k := 4) S dX0_isRowInSomeOrder_80 hl rfl (by decide) rfl (fun ls hl => ?_)
          refine lv_goto (tgt := 22) S.1 S.2.1 dX0_isRowInSomeOrder_83 (by decide) ?_
          have e0 : vX cI cZ a n mw nf sg fo L le sc li ba ca (va_up (skW n sg fo L w i st) ((L (15 * w + i)) - 97) (((skW n sg fo L w i st) ((L (15 * w + i)) - 97)) - 1)) = vX cI cZ a n mw nf sg fo L le sc li ba ca (skW n sg fo L w (i + 1) st) := (by rw [skW_t (show 97 ≤ L (15 * w + i) ∧ L (15 * w + i) ≤ 122 by omega) h60])
          exact ih b d (i + 1) (by omega) hl0 eb (by omega) (by rw [ed]; exact (mx_t (show 97 ≤ L (15 * w + i) ∧ L (15 * w + i) ≤ 122 by omega) h60).symm) (by omega) _ _ (by rw [← e0]; exact hP) (by rw [← e0]; exact hD) hS ls (lv_sub hl [2, 3, 4, 0] rfl)
set_option maxRecDepth 100000 in
set_option maxHeartbeats 1000000 in
theorem kX0_isRowInSomeOrder (l : Launch) (dC : Nat → ClassId) (dI : Nat → Nat → Nat) (cI cZ cJ : ClassId) (a : Nat → Nat) (n mw nf : Nat) (sg fo L le sc li ba ca st : Nat → Nat) (w : Nat) (hI : iv n mw nf sg fo L le sc li ba ca) (hw : w < mw) : wrE l yX0_isRowInSomeOrder cX0_isRowInSomeOrder 5 (some .boolean) 3 65 [.ref (a 0), .int (nI w)] dC dI cI cZ cJ (vX cI cZ a n mw nf sg fo L le sc li ba ca st) (fun z => vX cI cZ a n mw nf sg fo L le sc li ba ca z) (some (.int (nI (mxd n sg fo L le w).toNat))) := by
  refine wrE_ofW RX0 (by decide) rfl (Nat.le_of_ble_eq_true rfl) ?_
  intro p e s m below meth c S hr hlk hK hP hD hS ls hl
  have hl : lv_has ls 5 [(0, .ref (a 0)), (1, .int (nI w))] := hl
  obtain ⟨⟨hn, hm, hf⟩, ⟨hsg, hfo, hL, hle, hsc, hli, hba, hca⟩, hv1, hv2, hv3, hv4, hv5, hv6, hv7⟩ := id hI
  refine lv_aload_n S.1 S.2.1 dX0_isRowInSomeOrder_0 rfl (lv_at hl 0 rfl) ?_
  refine fX0_wordLengths (v := .ref (a 4)) S hK hP rfl rfl dX0_isRowInSomeOrder_1 ?_
  refine lv_iload_n S.1 S.2.1 dX0_isRowInSomeOrder_4 rfl (lv_at hl 1 rfl) ?_
  refine n_iald S hK hP 4 0 rfl rfl dX0_isRowInSomeOrder_5 (j := w) (by decide) (by omega) ?_
  have b5 := hle w
  refine lv_aload_n S.1 S.2.1 dX0_isRowInSomeOrder_6 rfl (lv_at hl 0 rfl) ?_
  refine fX0_signCount (v := .int (nI n)) S hK hP rfl rfl dX0_isRowInSomeOrder_7 ?_
  refine n_icmp_eq (x := le w) (y := n) (tgt := 15) S dX0_isRowInSomeOrder_10 (by decide) (by omega) (by omega) (fun h10 => ?_) (fun h10 => ?_)
  · refine lv_aload_n S.1 S.2.1 dX0_isRowInSomeOrder_15 rfl (lv_at hl 0 rfl) ?_
    refine wr_callV (C := RX0) (As := []) (rest := []) S (kX0_fillStock l dC dI cI cZ cJ a n mw nf sg fo L le sc li ba ca st hI) hK [] [] hP hD hS rfl (va_recv hK hP (ci := 0) (q0 := 0) rfl rfl) gX0_134 hdX0_fillStock (by decide) hl.1 rfl (Nat.le_of_ble_eq_true rfl) dX0_isRowInSomeOrder_16 ⟨Nat.zero_le _, Nat.zero_le _⟩ (fun H locs hP hD hS => ?_)
    have hP : va_P (dC, dI) vcl (vX cI cZ a n mw nf sg fo L le sc li ba ca (rcS n sg fo st)) H := hP
    have hD : va_D (wF (vX cI cZ a n mw nf sg fo L le sc li ba ca st)) (vX cI cZ a n mw nf sg fo L le sc li ba ca (rcS n sg fo st)) := hD
    obtain ⟨b, eb⟩ : ∃ b, b = cnt (fun j => decide (fsg sg fo j = 63)) n := ⟨_, rfl⟩
    rw [← eb]
    have hb1 : b ≤ n := by rw [eb]; exact cnt_le _ n
    rw [show nI b = nI b - nI 0 from (Int32.sub_zero (nI b)).symm]
    refine lv_istore_n (lv' := [(2, .int (nI b - nI 0)), (0, .ref (a 0)), (1, .int (nI w))]) S.1 S.2.1 dX0_isRowInSomeOrder_19 rfl hl (by decide) rfl (fun ls hl => ?_)
    refine lv_iconst (v := (nI 0)) S.1 S.2.1 dX0_isRowInSomeOrder_20 (by decide) ?_
    refine lv_istore_n (lv' := [(3, .int (nI 0)), (2, .int (nI b - nI 0)), (0, .ref (a 0)), (1, .int (nI w))]) S.1 S.2.1 dX0_isRowInSomeOrder_21 rfl hl (by decide) rfl (fun ls hl => ?_)
    have e0 : vX cI cZ a n mw nf sg fo L le sc li ba ca (rcS n sg fo st) = vX cI cZ a n mw nf sg fo L le sc li ba ca (skW n sg fo L w 0 st) := (by rw [skW_0])
    exact lX0_isRowInSomeOrder_22 l dC dI cI cZ cJ a n mw nf sg fo L le sc li ba ca st w hI hw S hr hlk hK _ b 0 0 (Nat.lt_succ_self _) h10 eb (by omega) (by rw [smm_zero.mpr (fun k _ => show wcn L w 0 k - rcn sg fo n k = 0 from Nat.zero_sub _)]) (by omega) _ _ (by rw [← e0]; exact hP) (by rw [← e0]; exact hD) hS ls (lv_sub hl [2, 3, 1, 0] rfl)
  · refine lv_iconst (v := (nI 0)) S.1 S.2.1 dX0_isRowInSomeOrder_13 (by decide) ?_
    exact wrE_ret (z := st) S hr hlk (rfl) (by rw [mxd_l h10]; rfl) hP (rfl) hS dX0_isRowInSomeOrder_14

set_option maxRecDepth 100000 in
set_option maxHeartbeats 1000000 in
theorem lX0_mixed_8 (l : Launch) (dC : Nat → ClassId) (dI : Nat → Nat → Nat) (cI cZ cJ : ClassId) (a : Nat → Nat) (n mw nf : Nat) (sg fo L le sc li ba ca st : Nat → Nat) (t : Nat) (hI : iv n mw nf sg fo L le sc li ba ca) (ht : t < 4)   {p : Program} {e : Env} {s : State} {m : MethodId} {below : List Frame} {meth : Method} {c : Code}(S : CallFix p m c cX0_mixed 4 s ([.ref (a 0), .int (nI t)] : List Value).toArray tbG RX0) (hr : meth.sig.returnType = (some .int)) (hlk : meth.locks = false) (hK : va_K (dC, dI) vcl (vty cI cZ cJ) s) :
    ∀ (fuel : Nat) (i : Nat) (k : Nat) (sx : Nat → Nat), mw - i < fuel → i ≤ mw → k = cnt (mxP n sg fo L le li ba t) i → ∀ (H : Heap) (locs : List Loc), va_P (dC, dI) vcl (vX cI cZ a n mw nf sg fo L le sc li ba ca sx) H → va_D (wF (vX cI cZ a n mw nf sg fo L le sc li ba ca st)) (vX cI cZ a n mw nf sg fo L le sc li ba ca sx) → va_S (wF (vX cI cZ a n mw nf sg fo L le sc li ba ca st)) s.heap H locs → ∀ ls : Array Slot, lv_has ls 4 [(0, .ref (a 0)), (1, .int (nI t)), (2, .int (nI k)), (3, .int (nI i))] → W p l e ({ frames := 4, cells := 0, slots := 0, locals := 89 } : Room) s m ([.ref (a 0), .int (nI t)] : List Value).toArray below meth c H locs 0 0 (MQ below (QwE dC dI (vX cI cZ a n mw nf sg fo L le sc li ba ca st) (fun z => vX cI cZ a n mw nf sg fo L le sc li ba ca z) (some (.int (nI (cnt (mxP n sg fo L le li ba t) mw))))) ([.ref (a 0), .int (nI t)] : List Value).toArray s 0 0 (wF (vX cI cZ a n mw nf sg fo L le sc li ba ca st))) (F0 m 8 ls []) := by
  obtain ⟨⟨hn, hm, hf⟩, ⟨hsg, hfo, hL, hle, hsc, hli, hba, hca⟩, hv1, hv2, hv3, hv4, hv5, hv6, hv7⟩ := id hI
  intro fuel
  induction fuel with
  | zero =>
    intro i k sx hq
    exact absurd hq (Nat.not_lt_zero _)
  | succ fuel ih =>
    intro i k sx hq hi hk H locs hP hD hS ls hl
    have hki := cnt_le (mxP n sg fo L le li ba t) i
    refine lv_iload_n S.1 S.2.1 dX0_mixed_8 rfl (lv_at hl 3 rfl) ?_
    refine lv_aload_n S.1 S.2.1 dX0_mixed_9 rfl (lv_at hl 0 rfl) ?_
    refine fX0_wordCount (v := .int (nI mw)) S hK hP rfl rfl dX0_mixed_10 ?_
    refine n_icmp_ge (x := i) (y := mw) (tgt := 42) S dX0_mixed_13 (by decide) (by omega) (by omega) (fun h13 => ?_) (fun h13 => ?_)
    · refine lv_iload_n S.1 S.2.1 dX0_mixed_42 rfl (lv_at hl 2 rfl) ?_
      exact wrE_ret (z := sx) S hr hlk (rfl) (by rw [hk, show i = mw by omega]) hP (rfl) hS dX0_mixed_43
    · refine lv_aload_n S.1 S.2.1 dX0_mixed_16 rfl (lv_at hl 0 rfl) ?_
      refine lv_iload_n S.1 S.2.1 dX0_mixed_17 rfl (lv_at hl 3 rfl) ?_
      refine lv_iload_n S.1 S.2.1 dX0_mixed_18 rfl (lv_at hl 1 rfl) ?_
      refine rd_callV (C := RX0) (As := [.int (nI i), .int (nI t)]) (rest := []) S (kX0_isFreeIn l dC dI cI cZ cJ a n mw nf sg fo L le sc li ba ca sx i t hI (by omega) ht) rB_blind (fun U hU hW => ⟨by rw [hU]; exact hP, va_K.moved hW.alike hK⟩) (va_recv hK hP (ci := 0) (q0 := 0) rfl rfl) gX0_87 hdX0_isFreeIn (by decide) hl.1 rfl (Nat.le_of_ble_eq_true rfl) dX0_mixed_19 ⟨Nat.zero_le _, Nat.zero_le _⟩ ?_
      refine n_bif_eq (b := fre li ba t i) (tgt := 36) S dX0_mixed_22 (by decide) (fun h22 => ?_) (fun h22 => ?_)
      · refine n_iinc (lv' := [(3, .int (nI (i + 1))), (0, .ref (a 0)), (1, .int (nI t)), (2, .int (nI k))]) (x := i) (k := 3) S dX0_mixed_36 hl rfl (by decide) rfl (fun ls hl => ?_)
        refine lv_goto (tgt := 8) S.1 S.2.1 dX0_mixed_39 (by decide) ?_
        exact ih (i + 1) k sx (by omega) (by omega) (by rw [cnt, ← hk, mxP]; first | (rw [h22, h30] <;> rfl) | (rw [h22] <;> rfl)) _ _ hP hD hS ls (lv_sub hl [1, 2, 3, 0] rfl)
      · refine lv_aload_n S.1 S.2.1 dX0_mixed_25 rfl (lv_at hl 0 rfl) ?_
        refine lv_iload_n S.1 S.2.1 dX0_mixed_26 rfl (lv_at hl 3 rfl) ?_
        refine wrE_callV (C := RX0) (As := [.int (nI i)]) (rest := []) S (kX0_isRowInSomeOrder l dC dI cI cZ cJ a n mw nf sg fo L le sc li ba ca sx i hI (by omega)) hK [] [] hP hD hS (fun _ => rfl) (va_recv hK hP (ci := 0) (q0 := 0) rfl rfl) gX0_106 hdX0_isRowInSomeOrder (by decide) hl.1 rfl (Nat.le_of_ble_eq_true rfl) dX0_mixed_27 ⟨Nat.zero_le _, Nat.zero_le _⟩ (fun z27 H locs hP hD hS => ?_)
        have hP : va_P (dC, dI) vcl (vX cI cZ a n mw nf sg fo L le sc li ba ca z27) H := hP
        have hD : va_D (wF (vX cI cZ a n mw nf sg fo L le sc li ba ca st)) (vX cI cZ a n mw nf sg fo L le sc li ba ca z27) := hD
        refine n_bif_eq (b := mxd n sg fo L le i) (tgt := 36) S dX0_mixed_30 (by decide) (fun h30 => ?_) (fun h30 => ?_)
        · refine n_iinc (lv' := [(3, .int (nI (i + 1))), (0, .ref (a 0)), (1, .int (nI t)), (2, .int (nI k))]) (x := i) (k := 3) S dX0_mixed_36 hl rfl (by decide) rfl (fun ls hl => ?_)
          refine lv_goto (tgt := 8) S.1 S.2.1 dX0_mixed_39 (by decide) ?_
          exact ih (i + 1) k z27 (by omega) (by omega) (by rw [cnt, ← hk, mxP]; first | (rw [h22, h30] <;> rfl) | (rw [h22] <;> rfl)) _ _ hP hD hS ls (lv_sub hl [1, 2, 3, 0] rfl)
        · refine n_iinc (lv' := [(2, .int (nI (k + 1))), (0, .ref (a 0)), (1, .int (nI t)), (3, .int (nI i))]) (x := k) (k := 2) S dX0_mixed_33 hl rfl (by decide) rfl (fun ls hl => ?_)
          refine n_iinc (lv' := [(3, .int (nI (i + 1))), (2, .int (nI (k + 1))), (0, .ref (a 0)), (1, .int (nI t))]) (x := i) (k := 3) S dX0_mixed_36 hl rfl (by decide) rfl (fun ls hl => ?_)
          refine lv_goto (tgt := 8) S.1 S.2.1 dX0_mixed_39 (by decide) ?_
          exact ih (i + 1) (k + 1) z27 (by omega) (by omega) (by rw [cnt, ← hk, mxP]; first | (rw [h22, h30] <;> rfl) | (rw [h22] <;> rfl)) _ _ hP hD hS ls (lv_sub hl [2, 3, 1, 0] rfl)
set_option maxRecDepth 100000 in
set_option maxHeartbeats 1000000 in
theorem kX0_mixed (l : Launch) (dC : Nat → ClassId) (dI : Nat → Nat → Nat) (cI cZ cJ : ClassId) (a : Nat → Nat) (n mw nf : Nat) (sg fo L le sc li ba ca st : Nat → Nat) (t : Nat) (hI : iv n mw nf sg fo L le sc li ba ca) (ht : t < 4) : wrE l yX0_mixed cX0_mixed 4 (some .int) 4 89 [.ref (a 0), .int (nI t)] dC dI cI cZ cJ (vX cI cZ a n mw nf sg fo L le sc li ba ca st) (fun z => vX cI cZ a n mw nf sg fo L le sc li ba ca z) (some (.int (nI (cnt (mxP n sg fo L le li ba t) mw)))) := by
  refine wrE_ofW RX0 (by decide) rfl (Nat.le_of_ble_eq_true rfl) ?_
  intro p e s m below meth c S hr hlk hK hP hD hS ls hl
  have hl : lv_has ls 4 [(0, .ref (a 0)), (1, .int (nI t))] := hl
  obtain ⟨⟨hn, hm, hf⟩, ⟨hsg, hfo, hL, hle, hsc, hli, hba, hca⟩, hv1, hv2, hv3, hv4, hv5, hv6, hv7⟩ := id hI
  refine lv_iload_n S.1 S.2.1 dX0_mixed_0 rfl (lv_at hl 1 rfl) ?_
  refine rdv_callS (As := [.int (nI t)]) (rest := []) S (kX0_needList l t ht) tr_blind (fun _ _ _ => trivial) gX0_56 hdX0_needList (by decide) hl.1 rfl (Nat.le_of_ble_eq_true rfl) dX0_mixed_1 ⟨Nat.zero_le _, Nat.zero_le _⟩ ?_
  refine lv_iconst (v := (nI 0)) S.1 S.2.1 dX0_mixed_4 (by decide) ?_
  refine lv_istore_n (lv' := [(2, .int (nI 0)), (0, .ref (a 0)), (1, .int (nI t))]) S.1 S.2.1 dX0_mixed_5 rfl hl (by decide) rfl (fun ls hl => ?_)
  refine lv_iconst (v := (nI 0)) S.1 S.2.1 dX0_mixed_6 (by decide) ?_
  refine lv_istore_n (lv' := [(3, .int (nI 0)), (2, .int (nI 0)), (0, .ref (a 0)), (1, .int (nI t))]) S.1 S.2.1 dX0_mixed_7 rfl hl (by decide) rfl (fun ls hl => ?_)
  exact lX0_mixed_8 l dC dI cI cZ cJ a n mw nf sg fo L le sc li ba ca st t hI ht S hr hlk hK _ 0 0 st (Nat.lt_succ_self _) (by omega) rfl _ _ hP hD hS ls (lv_sub hl [2, 3, 1, 0] rfl)
end
section
/-! ===== the reference: writers ===== -/
theorem wof_m1 {mw : Nat} {P : Nat → Bool} (hm : mw < 2 ^ 31) (h : wof mw P = -1) : ∀ j, j < mw → P j = false := by
  intro j hj
  cases hp : P j with
  | false => rfl
  | true =>
    exfalso
    have hx : ∃ i, i < mw ∧ P i = true ∧ ∀ k, k < i → P k = false := by
      obtain ⟨i, h1, h2⟩ := pk_least (fun i => P i = true) ⟨j, hp⟩
      refine ⟨i, ?_, h1, fun k hk => by cases hc : P k with | false => rfl | true => exact absurd hc (h2 k hk)⟩
      rcases Nat.lt_or_ge j i with q | q
      · exact absurd hp (h2 j q)
      · omega
    obtain ⟨i, h1, h2, h3⟩ := hx
    rw [wof_at h1 h3 h2] at h
    exact nI_m1 (by omega) h
theorem shl1 : ∀ t, t < 4 → nI 1 <<< (nI t &&& 31) = nI (2 ^ t) := by
  have key : ∀ t : Fin 4, nI 1 <<< (nI t.val &&& 31) = nI (2 ^ t.val) := by decide +kernel
  exact fun t ht => key ⟨t, ht⟩
theorem va_up_id {f : Nat → Nat} {k v : Nat} (h : f k = v) : va_up f k v = f := by
  funext j
  by_cases q : j = k
  · subst q; rw [va_up_self, h]
  · rw [va_up_ne _ _ q]
set_option maxRecDepth 100000 in
theorem kX1_fails (l : Launch) (dC : Nat → ClassId) (dI : Nat → Nat → Nat) (cI cZ cJ : ClassId) (a : Nat → Nat) (th n mw nf : Nat) (sg fo L le sc li ba ca : Nat → Nat) (wa : Nat → Int32) (o : Bool) : wr l yX1_fails cX1_fails 2 (some .boolean) 0 0 [.ref (a 0), .int (nI o.toNat)] dC dI cI cZ cJ (vY cI cZ a th n mw nf sg fo L le sc li ba ca wa) (vY cI cZ a o.toNat n mw nf sg fo L le sc li ba ca wa) (some (.int (nI o.toNat))) := by
  refine wr_ofW RX1 (by decide) rfl (Nat.le_of_ble_eq_true rfl) ?_
  intro p e s m below meth c S hr hlk hK hP hD hS ls hl
  have hl : lv_has ls 2 [(0, .ref (a 0)), (1, .int (nI o.toNat))] := hl
  refine lv_aload_n S.1 S.2.1 dX1_fails_0 rfl (lv_at hl 0 rfl) ?_
  refine lv_iload_n S.1 S.2.1 dX1_fails_1 rfl (lv_at hl 1 rfl) ?_
  have key : W p l e ({ frames := 0, cells := 0, slots := 0, locals := 0 } : Room) s m ([.ref (a 0), .int (nI o.toNat)] : List Value).toArray below meth c s.heap [] 0 0 (MQ below (Qw dC dI (vY cI cZ a th n mw nf sg fo L le sc li ba ca wa) (vY cI cZ a o.toNat n mw nf sg fo L le sc li ba ca wa) (some (.int (nI o.toNat)))) ([.ref (a 0), .int (nI o.toNat)] : List Value).toArray s 0 0 (wF (vY cI cZ a th n mw nf sg fo L le sc li ba ca wa))) (F0 m 10 ls [.int (nI o.toNat), .ref (a 0)]) := by
    refine pX1_thrown S hK hP hD hS rfl (Nat.le_of_ble_eq_true rfl) dX1_fails_10 (fun H locs hP hD hS => ?_)
    have hP : va_P (dC, dI) vcl (vY cI cZ a o.toNat n mw nf sg fo L le sc li ba ca wa) H := hP
    refine lv_iload_n S.1 S.2.1 dX1_fails_13 rfl (lv_at hl 1 rfl) ?_
    exact wr_ret S hr hlk (nar_b _) rfl hP rfl hS dX1_fails_14
  refine n_bif_eq (b := o) (tgt := 9) S dX1_fails_2 (by decide) (fun h2 => ?_) (fun h2 => ?_)
  · refine lv_iconst (v := nI o.toNat) S.1 S.2.1 dX1_fails_9 (by rw [h2]; decide) ?_
    exact key
  · refine lv_iconst (v := nI o.toNat) S.1 S.2.1 dX1_fails_5 (by rw [h2]; decide) ?_
    refine lv_goto (tgt := 10) S.1 S.2.1 dX1_fails_6 (by decide) ?_
    exact key

set_option maxRecDepth 100000 in
set_option maxHeartbeats 1000000 in
theorem kX1_signF (l : Launch) (dC : Nat → ClassId) (dI : Nat → Nat → Nat) (cI cZ cJ : ClassId) (a : Nat → Nat) (th n mw nf : Nat) (sg fo L le sc li ba ca : Nat → Nat) (wa : Nat → Int32) (u : Int32) (hI : iv n mw nf sg fo L le sc li ba ca) (hu : n = 15 ∨ (isL u = false ∧ ¬ u = nI 63)) : wr l yX1_sign cX1_sign 2 (some .boolean) 1 20 [.ref (a 0), .int u] dC dI cI cZ cJ (vY cI cZ a th n mw nf sg fo L le sc li ba ca wa) (vY cI cZ a 0 n mw nf sg fo L le sc li ba ca wa) (some (.int (nI (0)))) := by
  refine wr_ofW RX1 (by decide) rfl (Nat.le_of_ble_eq_true rfl) ?_
  intro p e s m below meth c S hr hlk hK hP hD hS ls hl
  have hl : lv_has ls 2 [(0, .ref (a 0)), (1, .int u)] := hl
  obtain ⟨⟨hn, hm, hf⟩, ⟨hsg, hfo, hL, hle, hsc, hli, hba, hca⟩, hv1, hv2, hv3, hv4, hv5, hv6, hv7⟩ := id hI
  refine lv_aload_n S.1 S.2.1 dX1_sign_0 rfl (lv_at hl 0 rfl) ?_
  refine lv_iconst (v := (nI 0)) S.1 S.2.1 dX1_sign_1 (by decide) ?_
  refine pX1_thrown S hK hP hD hS rfl (Nat.le_of_ble_eq_true rfl) dX1_sign_2 (fun H locs hP hD hS => ?_)
  have hP : va_P (dC, dI) vcl (vY cI cZ a 0 n mw nf sg fo L le sc li ba ca wa) H := hP
  have hD : va_D (wF (vY cI cZ a th n mw nf sg fo L le sc li ba ca wa)) (vY cI cZ a 0 n mw nf sg fo L le sc li ba ca wa) := hD
  refine lv_iload_n S.1 S.2.1 dX1_sign_5 rfl (lv_at hl 1 rfl) ?_
  refine rd_callS (As := [.int u]) (rest := []) S (kX1_isLetter l u) tr_blind (fun _ _ _ => trivial) gX1_45 hdX1_isLetter (by decide) hl.1 rfl (Nat.le_of_ble_eq_true rfl) dX1_sign_6 ⟨Nat.zero_le _, Nat.zero_le _⟩ ?_
  refine n_bif_ne (b := isL u) (tgt := 18) S dX1_sign_9 (by decide) (fun h9 => ?_) (fun h9 => ?_)
  · refine lv_aload_n S.1 S.2.1 dX1_sign_18 rfl (lv_at hl 0 rfl) ?_
    refine fX1_size (v := .int (nI n)) S hK hP rfl rfl dX1_sign_19 ?_
    refine lv_bipush (v := (nI 15)) S.1 S.2.1 dX1_sign_22 (by decide) ?_
    refine n_icmp_ne (x := n) (y := 15) (tgt := 29) S dX1_sign_24 (by decide) (by omega) (by omega) (fun h24 => ?_) (fun h24 => ?_)
    · exact absurd hu (fun q => q.elim h24 (fun q => by first | exact q.2 h15 | exact absurd h9 (by rw [q.1]; decide) | exact q.2 (Classical.not_not.mp h15)))
    · refine lv_iconst (v := (nI 0)) S.1 S.2.1 dX1_sign_27 (by decide) ?_
      exact wr_ret S hr hlk (rfl) (rfl) hP (rfl) hS dX1_sign_28
  · refine lv_iload_n S.1 S.2.1 dX1_sign_12 rfl (lv_at hl 1 rfl) ?_
    refine lv_bipush (v := (nI 63)) S.1 S.2.1 dX1_sign_13 (by decide) ?_
    refine lv_icmp_ne (tgt := 27) S.1 S.2.1 dX1_sign_15 (by decide) (fun h15 => ?_) (fun h15 => ?_)
    · refine lv_iconst (v := (nI 0)) S.1 S.2.1 dX1_sign_27 (by decide) ?_
      exact wr_ret S hr hlk (rfl) (rfl) hP (rfl) hS dX1_sign_28
    · refine lv_aload_n S.1 S.2.1 dX1_sign_18 rfl (lv_at hl 0 rfl) ?_
      refine fX1_size (v := .int (nI n)) S hK hP rfl rfl dX1_sign_19 ?_
      refine lv_bipush (v := (nI 15)) S.1 S.2.1 dX1_sign_22 (by decide) ?_
      refine n_icmp_ne (x := n) (y := 15) (tgt := 29) S dX1_sign_24 (by decide) (by omega) (by omega) (fun h24 => ?_) (fun h24 => ?_)
      · exact absurd hu (fun q => q.elim h24 (fun q => by first | exact q.2 h15 | exact absurd h9 (by rw [q.1]; decide) | exact q.2 (Classical.not_not.mp h15)))
      · refine lv_iconst (v := (nI 0)) S.1 S.2.1 dX1_sign_27 (by decide) ?_
        exact wr_ret S hr hlk (rfl) (rfl) hP (rfl) hS dX1_sign_28

set_option maxRecDepth 100000 in
set_option maxHeartbeats 1000000 in
theorem kX1_signT (l : Launch) (dC : Nat → ClassId) (dI : Nat → Nat → Nat) (cI cZ cJ : ClassId) (a : Nat → Nat) (th n mw nf : Nat) (sg fo L le sc li ba ca : Nat → Nat) (wa : Nat → Int32) (j : Nat) (hI : iv n mw nf sg fo L le sc li ba ca) (hj : j = 63 ∨ (97 ≤ j ∧ j ≤ 122)) (hn5 : n < 15) : wr l yX1_sign cX1_sign 2 (some .boolean) 1 20 [.ref (a 0), .int (nI j)] dC dI cI cZ cJ (vY cI cZ a th n mw nf sg fo L le sc li ba ca wa) (vY cI cZ a 0 (n + 1) mw nf (va_up sg n j) fo L le sc li ba ca wa) (some (.int (nI (1)))) := by
  refine wr_ofW RX1 (by decide) rfl (Nat.le_of_ble_eq_true rfl) ?_
  intro p e s m below meth c S hr hlk hK hP hD hS ls hl
  have hl : lv_has ls 2 [(0, .ref (a 0)), (1, .int (nI j))] := hl
  obtain ⟨⟨hn, hm, hf⟩, ⟨hsg, hfo, hL, hle, hsc, hli, hba, hca⟩, hv1, hv2, hv3, hv4, hv5, hv6, hv7⟩ := id hI
  refine lv_aload_n S.1 S.2.1 dX1_sign_0 rfl (lv_at hl 0 rfl) ?_
  refine lv_iconst (v := (nI 0)) S.1 S.2.1 dX1_sign_1 (by decide) ?_
  refine pX1_thrown S hK hP hD hS rfl (Nat.le_of_ble_eq_true rfl) dX1_sign_2 (fun H locs hP hD hS => ?_)
  have hP : va_P (dC, dI) vcl (vY cI cZ a 0 n mw nf sg fo L le sc li ba ca wa) H := hP
  have hD : va_D (wF (vY cI cZ a th n mw nf sg fo L le sc li ba ca wa)) (vY cI cZ a 0 n mw nf sg fo L le sc li ba ca wa) := hD
  refine lv_iload_n S.1 S.2.1 dX1_sign_5 rfl (lv_at hl 1 rfl) ?_
  refine rd_callS (As := [.int (nI j)]) (rest := []) S (kX1_isLetter l ((nI j))) tr_blind (fun _ _ _ => trivial) gX1_45 hdX1_isLetter (by decide) hl.1 rfl (Nat.le_of_ble_eq_true rfl) dX1_sign_6 ⟨Nat.zero_le _, Nat.zero_le _⟩ ?_
  rw [isL_n (by omega)]
  refine n_bif_ne (b := (decide (97 ≤ j) && decide (j < 123))) (tgt := 18) S dX1_sign_9 (by decide) (fun h9 => ?_) (fun h9 => ?_)
  · refine lv_aload_n S.1 S.2.1 dX1_sign_18 rfl (lv_at hl 0 rfl) ?_
    refine fX1_size (v := .int (nI n)) S hK hP rfl rfl dX1_sign_19 ?_
    refine lv_bipush (v := (nI 15)) S.1 S.2.1 dX1_sign_22 (by decide) ?_
    refine n_icmp_ne (x := n) (y := 15) (tgt := 29) S dX1_sign_24 (by decide) (by omega) (by omega) (fun h24 => ?_) (fun h24 => ?_)
    · refine lv_aload_n S.1 S.2.1 dX1_sign_29 rfl (lv_at hl 0 rfl) ?_
      refine fX1_row (v := .ref (a 1)) S hK hP rfl rfl dX1_sign_30 ?_
      refine lv_aload_n S.1 S.2.1 dX1_sign_33 rfl (lv_at hl 0 rfl) ?_
      refine fX1_size (v := .int (nI n)) S hK hP rfl rfl dX1_sign_34 ?_
      refine lv_iload_n S.1 S.2.1 dX1_sign_37 rfl (lv_at hl 1 rfl) ?_
      refine n_iast S hK hP hD hS 1 0 rfl rfl dX1_sign_38 (j := n) (x := j) (by decide) (by omega) (fun H locs hP hD hS => ?_)
      have hP : va_P (dC, dI) vcl (vY cI cZ a 0 n mw nf (va_up sg n j) fo L le sc li ba ca wa) H := hP
      have hD : va_D (wF (vY cI cZ a th n mw nf sg fo L le sc li ba ca wa)) (vY cI cZ a 0 n mw nf (va_up sg n j) fo L le sc li ba ca wa) := hD
      refine lv_aload_n S.1 S.2.1 dX1_sign_39 rfl (lv_at hl 0 rfl) ?_
      refine lv_dup S.1 S.2.1 dX1_sign_40 rfl ?_
      refine fX1_size (v := .int (nI n)) S hK hP rfl rfl dX1_sign_41 ?_
      refine lv_iconst (v := (nI 1)) S.1 S.2.1 dX1_sign_44 (by decide) ?_
      refine n_iadd (x := n) (y := 1) S dX1_sign_45 ?_
      refine pX1_size S hK hP hD hS rfl (Nat.le_of_ble_eq_true rfl) dX1_sign_46 (fun H locs hP hD hS => ?_)
      have hP : va_P (dC, dI) vcl (vY cI cZ a 0 (n + 1) mw nf (va_up sg n j) fo L le sc li ba ca wa) H := hP
      have hD : va_D (wF (vY cI cZ a th n mw nf sg fo L le sc li ba ca wa)) (vY cI cZ a 0 (n + 1) mw nf (va_up sg n j) fo L le sc li ba ca wa) := hD
      refine lv_iconst (v := (nI 1)) S.1 S.2.1 dX1_sign_49 (by decide) ?_
      exact wr_ret S hr hlk (rfl) (rfl) hP (rfl) hS dX1_sign_50
    · exact absurd h24 (by omega)
  · refine lv_iload_n S.1 S.2.1 dX1_sign_12 rfl (lv_at hl 1 rfl) ?_
    refine lv_bipush (v := (nI 63)) S.1 S.2.1 dX1_sign_13 (by decide) ?_
    refine n_icmp_ne (x := j) (y := 63) (tgt := 27) S dX1_sign_15 (by decide) (by omega) (by omega) (fun h15 => ?_) (fun h15 => ?_)
    · exact absurd hj (by simp only [Bool.and_eq_false_iff, decide_eq_false_iff_not] at h9; omega)
    · refine lv_aload_n S.1 S.2.1 dX1_sign_18 rfl (lv_at hl 0 rfl) ?_
      refine fX1_size (v := .int (nI n)) S hK hP rfl rfl dX1_sign_19 ?_
      refine lv_bipush (v := (nI 15)) S.1 S.2.1 dX1_sign_22 (by decide) ?_
      refine n_icmp_ne (x := n) (y := 15) (tgt := 29) S dX1_sign_24 (by decide) (by omega) (by omega) (fun h24 => ?_) (fun h24 => ?_)
      · refine lv_aload_n S.1 S.2.1 dX1_sign_29 rfl (lv_at hl 0 rfl) ?_
        refine fX1_row (v := .ref (a 1)) S hK hP rfl rfl dX1_sign_30 ?_
        refine lv_aload_n S.1 S.2.1 dX1_sign_33 rfl (lv_at hl 0 rfl) ?_
        refine fX1_size (v := .int (nI n)) S hK hP rfl rfl dX1_sign_34 ?_
        refine lv_iload_n S.1 S.2.1 dX1_sign_37 rfl (lv_at hl 1 rfl) ?_
        refine n_iast S hK hP hD hS 1 0 rfl rfl dX1_sign_38 (j := n) (x := j) (by decide) (by omega) (fun H locs hP hD hS => ?_)
        have hP : va_P (dC, dI) vcl (vY cI cZ a 0 n mw nf (va_up sg n j) fo L le sc li ba ca wa) H := hP
        have hD : va_D (wF (vY cI cZ a th n mw nf sg fo L le sc li ba ca wa)) (vY cI cZ a 0 n mw nf (va_up sg n j) fo L le sc li ba ca wa) := hD
        refine lv_aload_n S.1 S.2.1 dX1_sign_39 rfl (lv_at hl 0 rfl) ?_
        refine lv_dup S.1 S.2.1 dX1_sign_40 rfl ?_
        refine fX1_size (v := .int (nI n)) S hK hP rfl rfl dX1_sign_41 ?_
        refine lv_iconst (v := (nI 1)) S.1 S.2.1 dX1_sign_44 (by decide) ?_
        refine n_iadd (x := n) (y := 1) S dX1_sign_45 ?_
        refine pX1_size S hK hP hD hS rfl (Nat.le_of_ble_eq_true rfl) dX1_sign_46 (fun H locs hP hD hS => ?_)
        have hP : va_P (dC, dI) vcl (vY cI cZ a 0 (n + 1) mw nf (va_up sg n j) fo L le sc li ba ca wa) H := hP
        have hD : va_D (wF (vY cI cZ a th n mw nf sg fo L le sc li ba ca wa)) (vY cI cZ a 0 (n + 1) mw nf (va_up sg n j) fo L le sc li ba ca wa) := hD
        refine lv_iconst (v := (nI 1)) S.1 S.2.1 dX1_sign_49 (by decide) ?_
        exact wr_ret S hr hlk (rfl) (rfl) hP (rfl) hS dX1_sign_50
      · exact absurd h24 (by omega)

set_option maxRecDepth 100000 in
set_option maxHeartbeats 1000000 in
theorem kX1_clear (l : Launch) (dC : Nat → ClassId) (dI : Nat → Nat → Nat) (cI cZ cJ : ClassId) (a : Nat → Nat) (th n mw nf : Nat) (sg fo L le sc li ba ca : Nat → Nat) (wa : Nat → Int32) (hI : iv n mw nf sg fo L le sc li ba ca) : wr l yX1_clear cX1_clear 1 none 0 0 [.ref (a 0)] dC dI cI cZ cJ (vY cI cZ a th n mw nf sg fo L le sc li ba ca wa) (vY cI cZ a 0 0 mw nf sg fo L le sc li ba ca wa) none := by
  refine wr_ofW RX1 (by decide) rfl (Nat.le_of_ble_eq_true rfl) ?_
  intro p e s m below meth c S hr hlk hK hP hD hS ls hl
  have hl : lv_has ls 1 [(0, .ref (a 0))] := hl
  obtain ⟨⟨hn, hm, hf⟩, ⟨hsg, hfo, hL, hle, hsc, hli, hba, hca⟩, hv1, hv2, hv3, hv4, hv5, hv6, hv7⟩ := id hI
  refine lv_aload_n S.1 S.2.1 dX1_clear_0 rfl (lv_at hl 0 rfl) ?_
  refine lv_iconst (v := (nI 0)) S.1 S.2.1 dX1_clear_1 (by decide) ?_
  refine pX1_thrown S hK hP hD hS rfl (Nat.le_of_ble_eq_true rfl) dX1_clear_2 (fun H locs hP hD hS => ?_)
  have hP : va_P (dC, dI) vcl (vY cI cZ a 0 n mw nf sg fo L le sc li ba ca wa) H := hP
  have hD : va_D (wF (vY cI cZ a th n mw nf sg fo L le sc li ba ca wa)) (vY cI cZ a 0 n mw nf sg fo L le sc li ba ca wa) := hD
  refine lv_aload_n S.1 S.2.1 dX1_clear_5 rfl (lv_at hl 0 rfl) ?_
  refine lv_iconst (v := (nI 0)) S.1 S.2.1 dX1_clear_6 (by decide) ?_
  refine pX1_size S hK hP hD hS rfl (Nat.le_of_ble_eq_true rfl) dX1_clear_7 (fun H locs hP hD hS => ?_)
  have hP : va_P (dC, dI) vcl (vY cI cZ a 0 0 mw nf sg fo L le sc li ba ca wa) H := hP
  have hD : va_D (wF (vY cI cZ a th n mw nf sg fo L le sc li ba ca wa)) (vY cI cZ a 0 0 mw nf sg fo L le sc li ba ca wa) := hD
  exact wr_retv S hr hlk hP (rfl) hS dX1_clear_10

set_option maxRecDepth 100000 in
set_option maxHeartbeats 1000000 in
theorem kX1_fold (l : Launch) (dC : Nat → ClassId) (dI : Nat → Nat → Nat) (cI cZ cJ : ClassId) (a : Nat → Nat) (th n mw nf : Nat) (sg fo L le sc li ba ca : Nat → Nat) (wa : Nat → Int32) (y : Nat) (z : Nat) (hI : iv n mw nf sg fo L le sc li ba ca) (hy : 97 ≤ y ∧ y ≤ 122) (hz : 97 ≤ z ∧ z ≤ 122) : wr l yX1_fold cX1_fold 3 none 1 21 [.ref (a 0), .int (nI y), .int (nI z)] dC dI cI cZ cJ (vY cI cZ a th n mw nf sg fo L le sc li ba ca wa) (vY cI cZ a 0 n mw nf sg (va_up fo (y - 97) z) L le sc li ba ca wa) none := by
  refine wr_ofW RX1 (by decide) rfl (Nat.le_of_ble_eq_true rfl) ?_
  intro p e s m below meth c S hr hlk hK hP hD hS ls hl
  have hl : lv_has ls 3 [(0, .ref (a 0)), (1, .int (nI y)), (2, .int (nI z))] := hl
  obtain ⟨⟨hn, hm, hf⟩, ⟨hsg, hfo, hL, hle, hsc, hli, hba, hca⟩, hv1, hv2, hv3, hv4, hv5, hv6, hv7⟩ := id hI
  refine lv_aload_n S.1 S.2.1 dX1_fold_0 rfl (lv_at hl 0 rfl) ?_
  refine lv_iload_n S.1 S.2.1 dX1_fold_1 rfl (lv_at hl 1 rfl) ?_
  refine rd_callS (As := [.int (nI y)]) (rest := [.ref (a 0)]) S (kX1_isLetter l ((nI y))) tr_blind (fun _ _ _ => trivial) gX1_45 hdX1_isLetter (by decide) hl.1 rfl (Nat.le_of_ble_eq_true rfl) dX1_fold_2 ⟨Nat.zero_le _, Nat.zero_le _⟩ ?_
  rw [isL_i hy]
  refine n_bif_eq (b := true) (tgt := 15) S dX1_fold_5 (by decide) (fun h5 => ?_) (fun h5 => ?_)
  · exact absurd h5 (by decide)
  · refine lv_iload_n S.1 S.2.1 dX1_fold_8 rfl (lv_at hl 2 rfl) ?_
    refine rd_callS (As := [.int (nI z)]) (rest := [.ref (a 0)]) S (kX1_isLetter l ((nI z))) tr_blind (fun _ _ _ => trivial) gX1_45 hdX1_isLetter (by decide) hl.1 rfl (Nat.le_of_ble_eq_true rfl) dX1_fold_9 ⟨Nat.zero_le _, Nat.zero_le _⟩ ?_
    rw [isL_i hz]
    refine n_bif_ne (b := true) (tgt := 19) S dX1_fold_12 (by decide) (fun h12 => ?_) (fun h12 => ?_)
    · refine lv_iconst (v := (nI 0)) S.1 S.2.1 dX1_fold_19 (by decide) ?_
      refine wr_callV (C := RX1) (As := [.int (nI 0)]) (rest := []) S (kX1_fails l dC dI cI cZ cJ a th n mw nf sg fo L le sc li ba ca wa false) hK [] [] hP hD hS rfl (va_recv hK hP (ci := 1) (q0 := 0) rfl rfl) gX1_52 hdX1_fails (by decide) hl.1 rfl (Nat.le_of_ble_eq_true rfl) dX1_fold_20 ⟨Nat.zero_le _, Nat.zero_le _⟩ (fun H locs hP hD hS => ?_)
      have hP : va_P (dC, dI) vcl (vY cI cZ a 0 n mw nf sg fo L le sc li ba ca wa) H := hP
      have hD : va_D (wF (vY cI cZ a th n mw nf sg fo L le sc li ba ca wa)) (vY cI cZ a 0 n mw nf sg fo L le sc li ba ca wa) := hD
      refine n_bif_ne (b := false) (tgt := 36) S dX1_fold_23 (by decide) (fun h23 => ?_) (fun h23 => ?_)
      · exact absurd h23 (by decide)
      · refine lv_aload_n S.1 S.2.1 dX1_fold_26 rfl (lv_at hl 0 rfl) ?_
        refine fX1_folds (v := .ref (a 2)) S hK hP rfl rfl dX1_fold_27 ?_
        refine lv_iload_n S.1 S.2.1 dX1_fold_30 rfl (lv_at hl 1 rfl) ?_
        refine lv_bipush (v := (nI 97)) S.1 S.2.1 dX1_fold_31 (by decide) ?_
        refine n_isub (x := y) (y := 97) S dX1_fold_33 (by omega) ?_
        refine lv_iload_n S.1 S.2.1 dX1_fold_34 rfl (lv_at hl 2 rfl) ?_
        refine n_iast S hK hP hD hS 2 0 rfl rfl dX1_fold_35 (j := y - 97) (x := z) (by decide) (by omega) (fun H locs hP hD hS => ?_)
        have hP : va_P (dC, dI) vcl (vY cI cZ a 0 n mw nf sg (va_up fo (y - 97) z) L le sc li ba ca wa) H := hP
        have hD : va_D (wF (vY cI cZ a th n mw nf sg fo L le sc li ba ca wa)) (vY cI cZ a 0 n mw nf sg (va_up fo (y - 97) z) L le sc li ba ca wa) := hD
        exact wr_retv S hr hlk hP (rfl) hS dX1_fold_36
    · exact absurd h12 (by decide)

set_option maxRecDepth 100000 in
set_option maxHeartbeats 1000000 in
theorem kX1_foldF (l : Launch) (dC : Nat → ClassId) (dI : Nat → Nat → Nat) (cI cZ cJ : ClassId) (a : Nat → Nat) (th n mw nf : Nat) (sg fo L le sc li ba ca : Nat → Nat) (wa : Nat → Int32) (u : Int32) (v : Int32) (hu : isL u = false ∨ isL v = false) : wr l yX1_fold cX1_fold 3 none 1 21 [.ref (a 0), .int u, .int v] dC dI cI cZ cJ (vY cI cZ a th n mw nf sg fo L le sc li ba ca wa) (vY cI cZ a 1 n mw nf sg fo L le sc li ba ca wa) none := by
  refine wr_ofW RX1 (by decide) rfl (Nat.le_of_ble_eq_true rfl) ?_
  intro p e s m below meth c S hr hlk hK hP hD hS ls hl
  have hl : lv_has ls 3 [(0, .ref (a 0)), (1, .int u), (2, .int v)] := hl
  refine lv_aload_n S.1 S.2.1 dX1_fold_0 rfl (lv_at hl 0 rfl) ?_
  refine lv_iload_n S.1 S.2.1 dX1_fold_1 rfl (lv_at hl 1 rfl) ?_
  refine rd_callS (As := [.int u]) (rest := [.ref (a 0)]) S (kX1_isLetter l u) tr_blind (fun _ _ _ => trivial) gX1_45 hdX1_isLetter (by decide) hl.1 rfl (Nat.le_of_ble_eq_true rfl) dX1_fold_2 ⟨Nat.zero_le _, Nat.zero_le _⟩ ?_
  refine n_bif_eq (b := isL u) (tgt := 15) S dX1_fold_5 (by decide) (fun h5 => ?_) (fun h5 => ?_)
  · refine lv_iconst (v := (nI 1)) S.1 S.2.1 dX1_fold_15 (by decide) ?_
    refine lv_goto (tgt := 20) S.1 S.2.1 dX1_fold_16 (by decide) ?_
    refine wr_callV (C := RX1) (As := [.int (nI 1)]) (rest := []) S (kX1_fails l dC dI cI cZ cJ a th n mw nf sg fo L le sc li ba ca wa true) hK [] [] hP hD hS rfl (va_recv hK hP (ci := 1) (q0 := 0) rfl rfl) gX1_52 hdX1_fails (by decide) hl.1 rfl (Nat.le_of_ble_eq_true rfl) dX1_fold_20 ⟨Nat.zero_le _, Nat.zero_le _⟩ (fun H locs hP hD hS => ?_)
    have hP : va_P (dC, dI) vcl (vY cI cZ a 1 n mw nf sg fo L le sc li ba ca wa) H := hP
    have hD : va_D (wF (vY cI cZ a th n mw nf sg fo L le sc li ba ca wa)) (vY cI cZ a 1 n mw nf sg fo L le sc li ba ca wa) := hD
    refine n_bif_ne (b := true) (tgt := 36) S dX1_fold_23 (by decide) (fun h23 => ?_) (fun h23 => ?_)
    · exact wr_retv S hr hlk hP (rfl) hS dX1_fold_36
    · exact absurd h23 (by decide)
  · refine lv_iload_n S.1 S.2.1 dX1_fold_8 rfl (lv_at hl 2 rfl) ?_
    refine rd_callS (As := [.int v]) (rest := [.ref (a 0)]) S (kX1_isLetter l v) tr_blind (fun _ _ _ => trivial) gX1_45 hdX1_isLetter (by decide) hl.1 rfl (Nat.le_of_ble_eq_true rfl) dX1_fold_9 ⟨Nat.zero_le _, Nat.zero_le _⟩ ?_
    refine n_bif_ne (b := isL v) (tgt := 19) S dX1_fold_12 (by decide) (fun h12 => ?_) (fun h12 => ?_)
    · exact absurd hu (by rw [h5, h12]; decide)
    · refine lv_iconst (v := (nI 1)) S.1 S.2.1 dX1_fold_15 (by decide) ?_
      refine lv_goto (tgt := 20) S.1 S.2.1 dX1_fold_16 (by decide) ?_
      refine wr_callV (C := RX1) (As := [.int (nI 1)]) (rest := []) S (kX1_fails l dC dI cI cZ cJ a th n mw nf sg fo L le sc li ba ca wa true) hK [] [] hP hD hS rfl (va_recv hK hP (ci := 1) (q0 := 0) rfl rfl) gX1_52 hdX1_fails (by decide) hl.1 rfl (Nat.le_of_ble_eq_true rfl) dX1_fold_20 ⟨Nat.zero_le _, Nat.zero_le _⟩ (fun H locs hP hD hS => ?_)
      have hP : va_P (dC, dI) vcl (vY cI cZ a 1 n mw nf sg fo L le sc li ba ca wa) H := hP
      have hD : va_D (wF (vY cI cZ a th n mw nf sg fo L le sc li ba ca wa)) (vY cI cZ a 1 n mw nf sg fo L le sc li ba ca wa) := hD
      refine n_bif_ne (b := true) (tgt := 36) S dX1_fold_23 (by decide) (fun h23 => ?_) (fun h23 => ?_)
      · exact wr_retv S hr hlk hP (rfl) hS dX1_fold_36
      · exact absurd h23 (by decide)

set_option maxRecDepth 100000 in
set_option maxHeartbeats 1000000 in
theorem kX1_enterF (l : Launch) (dC : Nat → ClassId) (dI : Nat → Nat → Nat) (cI cZ cJ : ClassId) (a : Nat → Nat) (th n mw nf : Nat) (sg fo L le sc li ba ca : Nat → Nat) (wa : Nat → Int32) (u : Int32) (x : Int32) (hu : isLi u = false) : wr l yX1_enter cX1_enter 4 (some .int) 1 21 [.ref (a 0), .int u, .int x] dC dI cI cZ cJ (vY cI cZ a th n mw nf sg fo L le sc li ba ca wa) (vY cI cZ a 1 n mw nf sg fo L le sc li ba ca wa) (some (.int (nI (0)))) := by
  refine wr_ofW RX1 (by decide) rfl (Nat.le_of_ble_eq_true rfl) ?_
  intro p e s m below meth c S hr hlk hK hP hD hS ls hl
  have hl : lv_has ls 4 [(0, .ref (a 0)), (1, .int u), (2, .int x)] := hl
  refine lv_aload_n S.1 S.2.1 dX1_enter_0 rfl (lv_at hl 0 rfl) ?_
  refine lv_iload_n S.1 S.2.1 dX1_enter_1 rfl (lv_at hl 1 rfl) ?_
  refine rd_callS (As := [.int u]) (rest := [.ref (a 0)]) S (kX1_isList l u) tr_blind (fun _ _ _ => trivial) gX1_68 hdX1_isList (by decide) hl.1 rfl (Nat.le_of_ble_eq_true rfl) dX1_enter_2 ⟨Nat.zero_le _, Nat.zero_le _⟩ ?_
  rw [hu]
  refine n_bif_ne (b := false) (tgt := 12) S dX1_enter_5 (by decide) (fun h5 => ?_) (fun h5 => ?_)
  · exact absurd h5 (by decide)
  · refine lv_iconst (v := (nI 1)) S.1 S.2.1 dX1_enter_8 (by decide) ?_
    refine lv_goto (tgt := 13) S.1 S.2.1 dX1_enter_9 (by decide) ?_
    refine wr_callV (C := RX1) (As := [.int (nI 1)]) (rest := []) S (kX1_fails l dC dI cI cZ cJ a th n mw nf sg fo L le sc li ba ca wa true) hK [] [] hP hD hS rfl (va_recv hK hP (ci := 1) (q0 := 0) rfl rfl) gX1_52 hdX1_fails (by decide) hl.1 rfl (Nat.le_of_ble_eq_true rfl) dX1_enter_13 ⟨Nat.zero_le _, Nat.zero_le _⟩ (fun H locs hP hD hS => ?_)
    have hP : va_P (dC, dI) vcl (vY cI cZ a 1 n mw nf sg fo L le sc li ba ca wa) H := hP
    have hD : va_D (wF (vY cI cZ a th n mw nf sg fo L le sc li ba ca wa)) (vY cI cZ a 1 n mw nf sg fo L le sc li ba ca wa) := hD
    refine n_bif_eq (b := true) (tgt := 21) S dX1_enter_16 (by decide) (fun h16 => ?_) (fun h16 => ?_)
    · exact absurd h16 (by decide)
    · refine lv_iconst (v := (nI 0)) S.1 S.2.1 dX1_enter_19 (by decide) ?_
      exact wr_ret S hr hlk (rfl) (rfl) hP (rfl) hS dX1_enter_20

set_option maxRecDepth 100000 in
set_option maxHeartbeats 1000000 in
theorem lX1_enterN_50 (l : Launch) (dC : Nat → ClassId) (dI : Nat → Nat → Nat) (cI cZ cJ : ClassId) (a : Nat → Nat) (th n mw nf : Nat) (sg fo L le sc li ba ca : Nat → Nat) (wa : Nat → Int32) (t : Nat) (x : Int32) (hI : iv n mw nf sg fo L le sc li ba ca) (ht : t < 4) (he : n = 0 ∨ hbl n sg = true ∨ x < 0 ∨ nI 1000 < x ∨ (wof mw (fit n sg fo L le) = -1 ∧ mw = 250))  {p : Program} {e : Env} {s : State} {m : MethodId} {below : List Frame} {meth : Method} {c : Code} (S : CallFix p m c cX1_enter 4 s ([.ref (a 0), .int (nI t), .int x] : List Value).toArray tbG RX1) (hr : meth.sig.returnType = (some .int)) (hlk : meth.locks = false) (hK : va_K (dC, dI) vcl (vty cI cZ cJ) s) :
    ∀ (fuel : Nat) (i : Nat), mw - i < fuel → ((∀ j, j < mw → fit n sg fo L le j = false) ∧ mw = 250) → i ≤ mw → ∀ (H : Heap) (locs : List Loc), va_P (dC, dI) vcl (vY cI cZ a 0 n mw nf sg fo L le sc li ba ca wa) H → va_D (wF (vY cI cZ a th n mw nf sg fo L le sc li ba ca wa)) (vY cI cZ a 0 n mw nf sg fo L le sc li ba ca wa) → va_S (wF (vY cI cZ a th n mw nf sg fo L le sc li ba ca wa)) s.heap H locs → ∀ ls : Array Slot, lv_has ls 4 [(0, .ref (a 0)), (1, .int (nI t)), (2, .int x), (3, .int (nI i))] → W p l e ({ frames := 3, cells := 0, slots := 0, locals := 66 } : Room) s m ([.ref (a 0), .int (nI t), .int x] : List Value).toArray below meth c H locs 0 0 (MQ below (Qw dC dI (vY cI cZ a th n mw nf sg fo L le sc li ba ca wa) (vY cI cZ a 0 n mw nf sg fo L le sc li ba ca wa) (some (.int ((-1 : Int32))))) ([.ref (a 0), .int (nI t), .int x] : List Value).toArray s 0 0 (wF (vY cI cZ a th n mw nf sg fo L le sc li ba ca wa))) (F0 m 50 ls []) := by
  obtain ⟨⟨hn, hm, hf⟩, ⟨hsg, hfo, hL, hle, hsc, hli, hba, hca⟩, hv1, hv2, hv3, hv4, hv5, hv6, hv7⟩ := id hI
  intro fuel
  induction fuel with
  | zero =>
    intro i hq
    exact absurd hq (Nat.not_lt_zero _)
  | succ fuel ih =>
    intro i hq hl9 hi H locs hP hD hS ls hl
    refine lv_iload_n S.1 S.2.1 dX1_enter_50 rfl (lv_at hl 3 rfl) ?_
    refine lv_aload_n S.1 S.2.1 dX1_enter_51 rfl (lv_at hl 0 rfl) ?_
    refine fX1_many (v := .int (nI mw)) S hK hP rfl rfl dX1_enter_52 ?_
    refine n_icmp_ge (x := i) (y := mw) (tgt := 119) S dX1_enter_55 (by decide) (by omega) (by omega) (fun h55 => ?_) (fun h55 => ?_)
    · refine lv_aload_n S.1 S.2.1 dX1_enter_119 rfl (lv_at hl 0 rfl) ?_
      refine fX1_many (v := .int (nI mw)) S hK hP rfl rfl dX1_enter_120 ?_
      refine lv_sipush (v := (nI 250)) S.1 S.2.1 dX1_enter_123 (by decide) ?_
      refine n_icmp_ne (x := mw) (y := 250) (tgt := 131) S dX1_enter_126 (by decide) (by omega) (by omega) (fun h126 => ?_) (fun h126 => ?_)
      · exact absurd hl9.2 h126
      · refine lv_iconst (v := -1) S.1 S.2.1 dX1_enter_129 (by decide) ?_
        exact wr_ret S hr hlk (rfl) (rfl) hP (rfl) hS dX1_enter_130
    · refine lv_aload_n S.1 S.2.1 dX1_enter_58 rfl (lv_at hl 0 rfl) ?_
      refine lv_iload_n S.1 S.2.1 dX1_enter_59 rfl (lv_at hl 3 rfl) ?_
      refine rd_callV (C := RX1) (As := [.int (nI i)]) (rest := []) S (kX1_fits l dC dI cI cZ cJ a 0 n mw nf sg fo L le sc li ba ca wa i hI (by omega)) rB_blind (fun U hU hW => ⟨by rw [hU]; exact hP, va_K.moved hW.alike hK⟩) (va_recv hK hP (ci := 1) (q0 := 0) rfl rfl) gX1_75 hdX1_fits (by decide) hl.1 rfl (Nat.le_of_ble_eq_true rfl) dX1_enter_60 ⟨Nat.zero_le _, Nat.zero_le _⟩ ?_
      refine n_bif_ne (b := fit n sg fo L le i) (tgt := 69) S dX1_enter_63 (by decide) (fun h63 => ?_) (fun h63 => ?_)
      · exact absurd (hl9.1 i (by omega)) (by rw [h63]; decide)
      · refine lv_goto (tgt := 113) S.1 S.2.1 dX1_enter_66 (by decide) ?_
        refine n_iinc (lv' := [(3, .int (nI (i + 1))), (0, .ref (a 0)), (1, .int (nI t)), (2, .int x)]) (x := i) (k := 3) S dX1_enter_113 hl rfl (by decide) rfl (fun ls hl => ?_)
        refine lv_goto (tgt := 50) S.1 S.2.1 dX1_enter_116 (by decide) ?_
        exact ih (i + 1) (by omega) hl9 (by omega) _ _ hP hD hS ls (lv_sub hl [1, 2, 3, 0] rfl)
set_option maxRecDepth 100000 in
set_option maxHeartbeats 1000000 in
theorem kX1_enterN (l : Launch) (dC : Nat → ClassId) (dI : Nat → Nat → Nat) (cI cZ cJ : ClassId) (a : Nat → Nat) (th n mw nf : Nat) (sg fo L le sc li ba ca : Nat → Nat) (wa : Nat → Int32) (t : Nat) (x : Int32) (hI : iv n mw nf sg fo L le sc li ba ca) (ht : t < 4) (he : n = 0 ∨ hbl n sg = true ∨ x < 0 ∨ nI 1000 < x ∨ (wof mw (fit n sg fo L le) = -1 ∧ mw = 250)) : wr l yX1_enter cX1_enter 4 (some .int) 3 66 [.ref (a 0), .int (nI t), .int x] dC dI cI cZ cJ (vY cI cZ a th n mw nf sg fo L le sc li ba ca wa) (vY cI cZ a 0 n mw nf sg fo L le sc li ba ca wa) (some (.int ((-1 : Int32)))) := by
  refine wr_ofW RX1 (by decide) rfl (Nat.le_of_ble_eq_true rfl) ?_
  intro p e s m below meth c S hr hlk hK hP hD hS ls hl
  have hl : lv_has ls 4 [(0, .ref (a 0)), (1, .int (nI t)), (2, .int x)] := hl
  obtain ⟨⟨hn, hm, hf⟩, ⟨hsg, hfo, hL, hle, hsc, hli, hba, hca⟩, hv1, hv2, hv3, hv4, hv5, hv6, hv7⟩ := id hI
  refine lv_aload_n S.1 S.2.1 dX1_enter_0 rfl (lv_at hl 0 rfl) ?_
  refine lv_iload_n S.1 S.2.1 dX1_enter_1 rfl (lv_at hl 1 rfl) ?_
  refine rd_callS (As := [.int (nI t)]) (rest := [.ref (a 0)]) S (kX1_isList l ((nI t))) tr_blind (fun _ _ _ => trivial) gX1_68 hdX1_isList (by decide) hl.1 rfl (Nat.le_of_ble_eq_true rfl) dX1_enter_2 ⟨Nat.zero_le _, Nat.zero_le _⟩ ?_
  rw [isLi_n ht]
  refine n_bif_ne (b := true) (tgt := 12) S dX1_enter_5 (by decide) (fun h5 => ?_) (fun h5 => ?_)
  · refine lv_iconst (v := (nI 0)) S.1 S.2.1 dX1_enter_12 (by decide) ?_
    refine wr_callV (C := RX1) (As := [.int (nI 0)]) (rest := []) S (kX1_fails l dC dI cI cZ cJ a th n mw nf sg fo L le sc li ba ca wa false) hK [] [] hP hD hS rfl (va_recv hK hP (ci := 1) (q0 := 0) rfl rfl) gX1_52 hdX1_fails (by decide) hl.1 rfl (Nat.le_of_ble_eq_true rfl) dX1_enter_13 ⟨Nat.zero_le _, Nat.zero_le _⟩ (fun H locs hP hD hS => ?_)
    have hP : va_P (dC, dI) vcl (vY cI cZ a 0 n mw nf sg fo L le sc li ba ca wa) H := hP
    have hD : va_D (wF (vY cI cZ a th n mw nf sg fo L le sc li ba ca wa)) (vY cI cZ a 0 n mw nf sg fo L le sc li ba ca wa) := hD
    refine n_bif_eq (b := false) (tgt := 21) S dX1_enter_16 (by decide) (fun h16 => ?_) (fun h16 => ?_)
    · refine lv_aload_n S.1 S.2.1 dX1_enter_21 rfl (lv_at hl 0 rfl) ?_
      refine fX1_size (v := .int (nI n)) S hK hP rfl rfl dX1_enter_22 ?_
      refine n_if_eq (x := n) (tgt := 46) S dX1_enter_25 (by decide) (by omega) (fun h25 => ?_) (fun h25 => ?_)
      · refine lv_iconst (v := -1) S.1 S.2.1 dX1_enter_46 (by decide) ?_
        exact wr_ret S hr hlk (rfl) (rfl) hP (rfl) hS dX1_enter_47
      · refine lv_aload_n S.1 S.2.1 dX1_enter_28 rfl (lv_at hl 0 rfl) ?_
        refine rd_callV (C := RX1) (As := []) (rest := []) S (kX1_hasBlank l dC dI cI cZ cJ a 0 n mw nf sg fo L le sc li ba ca wa hI) rB_blind (fun U hU hW => ⟨by rw [hU]; exact hP, va_K.moved hW.alike hK⟩) (va_recv hK hP (ci := 1) (q0 := 0) rfl rfl) gX1_71 hdX1_hasBlank (by decide) hl.1 rfl (Nat.le_of_ble_eq_true rfl) dX1_enter_29 ⟨Nat.zero_le _, Nat.zero_le _⟩ ?_
        refine n_bif_ne (b := hbl n sg) (tgt := 46) S dX1_enter_32 (by decide) (fun h32 => ?_) (fun h32 => ?_)
        · refine lv_iconst (v := -1) S.1 S.2.1 dX1_enter_46 (by decide) ?_
          exact wr_ret S hr hlk (rfl) (rfl) hP (rfl) hS dX1_enter_47
        · refine lv_iload_n S.1 S.2.1 dX1_enter_35 rfl (lv_at hl 2 rfl) ?_
          refine lv_if_lt (tgt := 46) S.1 S.2.1 dX1_enter_36 (by decide) (fun h36 => ?_) (fun h36 => ?_)
          · refine lv_iconst (v := -1) S.1 S.2.1 dX1_enter_46 (by decide) ?_
            exact wr_ret S hr hlk (rfl) (rfl) hP (rfl) hS dX1_enter_47
          · refine lv_iload_n S.1 S.2.1 dX1_enter_39 rfl (lv_at hl 2 rfl) ?_
            refine lv_sipush (v := (nI 1000)) S.1 S.2.1 dX1_enter_40 (by decide) ?_
            refine lv_icmp_le (tgt := 48) S.1 S.2.1 dX1_enter_43 (by decide) (fun h43 => ?_) (fun h43 => ?_)
            · refine lv_iconst (v := (nI 0)) S.1 S.2.1 dX1_enter_48 (by decide) ?_
              refine lv_istore_n (lv' := [(3, .int (nI 0)), (0, .ref (a 0)), (1, .int (nI t)), (2, .int x)]) S.1 S.2.1 dX1_enter_49 rfl hl (by decide) rfl (fun ls hl => ?_)
              exact lX1_enterN_50 l dC dI cI cZ cJ a th n mw nf sg fo L le sc li ba ca wa t x hI ht he S hr hlk hK _ 0 (Nat.lt_succ_self _) ⟨wof_m1 (by omega) (show wof mw (fit n sg fo L le) = -1 ∧ mw = 250 by rcases he with q | q | q | q | q; exact absurd q h25; exact absurd q (by rw [h32]; decide); exact absurd q h36; exact absurd h43 (Int32.not_le.mpr q); exact q).1, (show wof mw (fit n sg fo L le) = -1 ∧ mw = 250 by rcases he with q | q | q | q | q; exact absurd q h25; exact absurd q (by rw [h32]; decide); exact absurd q h36; exact absurd h43 (Int32.not_le.mpr q); exact q).2⟩ (by omega) _ _ hP hD hS ls (lv_sub hl [1, 2, 3, 0] rfl)
            · refine lv_iconst (v := -1) S.1 S.2.1 dX1_enter_46 (by decide) ?_
              exact wr_ret S hr hlk (rfl) (rfl) hP (rfl) hS dX1_enter_47
    · exact absurd h16 (by decide)
  · exact absurd h5 (by decide)

set_option maxRecDepth 100000 in
set_option maxHeartbeats 1000000 in
theorem lX1_enterO_50 (l : Launch) (dC : Nat → ClassId) (dI : Nat → Nat → Nat) (cI cZ cJ : ClassId) (a : Nat → Nat) (th n mw nf : Nat) (sg fo L le sc li ba ca : Nat → Nat) (wa : Nat → Int32) (t : Nat) (s0 : Nat) (w : Nat) (hI : iv n mw nf sg fo L le sc li ba ca) (ht : t < 4) (hs : s0 ≤ 1000) (h0 : n ≠ 0) (hb : hbl n sg = false) (hw : w < mw) (hf1 : fit n sg fo L le w = true) (hf2 : ∀ j, j < w → fit n sg fo L le j = false)  {p : Program} {e : Env} {s : State} {m : MethodId} {below : List Frame} {meth : Method} {c : Code} (S : CallFix p m c cX1_enter 4 s ([.ref (a 0), .int (nI t), .int (nI s0)] : List Value).toArray tbG RX1) (hr : meth.sig.returnType = (some .int)) (hlk : meth.locks = false) (hK : va_K (dC, dI) vcl (vty cI cZ cJ) s) :
    ∀ (fuel : Nat) (i : Nat), w - i < fuel → i ≤ w → ∀ (H : Heap) (locs : List Loc), va_P (dC, dI) vcl (vY cI cZ a 0 n mw nf sg fo L le sc li ba ca wa) H → va_D (wF (vY cI cZ a th n mw nf sg fo L le sc li ba ca wa)) (vY cI cZ a 0 n mw nf sg fo L le sc li ba ca wa) → va_S (wF (vY cI cZ a th n mw nf sg fo L le sc li ba ca wa)) s.heap H locs → ∀ ls : Array Slot, lv_has ls 4 [(0, .ref (a 0)), (1, .int (nI t)), (2, .int (nI s0)), (3, .int (nI i))] → W p l e ({ frames := 3, cells := 0, slots := 0, locals := 66 } : Room) s m ([.ref (a 0), .int (nI t), .int (nI s0)] : List Value).toArray below meth c H locs 0 0 (MQ below (Qw dC dI (vY cI cZ a th n mw nf sg fo L le sc li ba ca wa) (vY cI cZ a 0 n mw nf sg fo L le (va_up sc w (max (sc w) s0)) (va_up li w (li w ||| 2 ^ t)) ba ca wa) (some (.int (nI (w))))) ([.ref (a 0), .int (nI t), .int (nI s0)] : List Value).toArray s 0 0 (wF (vY cI cZ a th n mw nf sg fo L le sc li ba ca wa))) (F0 m 50 ls []) := by
  obtain ⟨⟨hn, hm, hf⟩, ⟨hsg, hfo, hL, hle, hsc, hli, hba, hca⟩, hv1, hv2, hv3, hv4, hv5, hv6, hv7⟩ := id hI
  intro fuel
  induction fuel with
  | zero =>
    intro i hq
    exact absurd hq (Nat.not_lt_zero _)
  | succ fuel ih =>
    intro i hq hi H locs hP hD hS ls hl
    refine lv_iload_n S.1 S.2.1 dX1_enter_50 rfl (lv_at hl 3 rfl) ?_
    refine lv_aload_n S.1 S.2.1 dX1_enter_51 rfl (lv_at hl 0 rfl) ?_
    refine fX1_many (v := .int (nI mw)) S hK hP rfl rfl dX1_enter_52 ?_
    refine n_icmp_ge (x := i) (y := mw) (tgt := 119) S dX1_enter_55 (by decide) (by omega) (by omega) (fun h55 => ?_) (fun h55 => ?_)
    · exact absurd h55 (by omega)
    · refine lv_aload_n S.1 S.2.1 dX1_enter_58 rfl (lv_at hl 0 rfl) ?_
      refine lv_iload_n S.1 S.2.1 dX1_enter_59 rfl (lv_at hl 3 rfl) ?_
      refine rd_callV (C := RX1) (As := [.int (nI i)]) (rest := []) S (kX1_fits l dC dI cI cZ cJ a 0 n mw nf sg fo L le sc li ba ca wa i hI (by omega)) rB_blind (fun U hU hW => ⟨by rw [hU]; exact hP, va_K.moved hW.alike hK⟩) (va_recv hK hP (ci := 1) (q0 := 0) rfl rfl) gX1_75 hdX1_fits (by decide) hl.1 rfl (Nat.le_of_ble_eq_true rfl) dX1_enter_60 ⟨Nat.zero_le _, Nat.zero_le _⟩ ?_
      refine n_bif_ne (b := fit n sg fo L le i) (tgt := 69) S dX1_enter_63 (by decide) (fun h63 => ?_) (fun h63 => ?_)
      · have ew : i = w := by rcases Nat.lt_or_ge i w with q | q; exact absurd h63 (by rw [hf2 i q]; decide); omega
        subst ew
        refine lv_aload_n S.1 S.2.1 dX1_enter_69 rfl (lv_at hl 0 rfl) ?_
        refine fX1_lists (v := .ref (a 6)) S hK hP rfl rfl dX1_enter_70 ?_
        refine lv_iload_n S.1 S.2.1 dX1_enter_73 rfl (lv_at hl 3 rfl) ?_
        refine lv_aload_n S.1 S.2.1 dX1_enter_74 rfl (lv_at hl 0 rfl) ?_
        refine fX1_lists (v := .ref (a 6)) S hK hP rfl rfl dX1_enter_75 ?_
        refine lv_iload_n S.1 S.2.1 dX1_enter_78 rfl (lv_at hl 3 rfl) ?_
        refine n_iald S hK hP 6 0 rfl rfl dX1_enter_79 (j := i) (by decide) (by omega) ?_
        have b79 := hli i
        refine lv_iconst (v := (nI 1)) S.1 S.2.1 dX1_enter_80 (by decide) ?_
        refine lv_iload_n S.1 S.2.1 dX1_enter_81 rfl (lv_at hl 1 rfl) ?_
        refine lv_ishl S.1 S.2.1 dX1_enter_82 ?_
        refine lv_ior S.1 S.2.1 dX1_enter_83 ?_
        have hbb : nI (li i) ||| (nI 1 <<< (nI t &&& 31)) = nI (li i ||| 2 ^ t) := by obtain ⟨y, q1, q2, q3⟩ := (tb_lt (li i) (by omega) t ht).2.2.1; rw [← q2]; exact q3
        rw [hbb]
        refine n_iast S hK hP hD hS 6 0 rfl rfl dX1_enter_84 (j := i) (x := li i ||| 2 ^ t) (by decide) (by omega) (fun H locs hP hD hS => ?_)
        have hP : va_P (dC, dI) vcl (vY cI cZ a 0 n mw nf sg fo L le sc (va_up li i (li i ||| 2 ^ t)) ba ca wa) H := hP
        have hD : va_D (wF (vY cI cZ a th n mw nf sg fo L le sc li ba ca wa)) (vY cI cZ a 0 n mw nf sg fo L le sc (va_up li i (li i ||| 2 ^ t)) ba ca wa) := hD
        refine lv_aload_n S.1 S.2.1 dX1_enter_85 rfl (lv_at hl 0 rfl) ?_
        refine fX1_scores (v := .ref (a 5)) S hK hP rfl rfl dX1_enter_86 ?_
        refine lv_iload_n S.1 S.2.1 dX1_enter_89 rfl (lv_at hl 3 rfl) ?_
        refine lv_aload_n S.1 S.2.1 dX1_enter_90 rfl (lv_at hl 0 rfl) ?_
        refine fX1_scores (v := .ref (a 5)) S hK hP rfl rfl dX1_enter_91 ?_
        refine lv_iload_n S.1 S.2.1 dX1_enter_94 rfl (lv_at hl 3 rfl) ?_
        refine n_iald S hK hP 5 0 rfl rfl dX1_enter_95 (j := i) (by decide) (by omega) ?_
        have b95 := hsc i
        refine lv_iload_n S.1 S.2.1 dX1_enter_96 rfl (lv_at hl 2 rfl) ?_
        refine n_icmp_le (x := sc i) (y := s0) (tgt := 109) S dX1_enter_97 (by decide) (by omega) (by omega) (fun h97 => ?_) (fun h97 => ?_)
        · refine lv_iload_n S.1 S.2.1 dX1_enter_109 rfl (lv_at hl 2 rfl) ?_
          refine n_iast S hK hP hD hS 5 0 rfl rfl dX1_enter_110 (j := i) (x := s0) (by decide) (by omega) (fun H locs hP hD hS => ?_)
          have hP : va_P (dC, dI) vcl (vY cI cZ a 0 n mw nf sg fo L le (va_up sc i s0) (va_up li i (li i ||| 2 ^ t)) ba ca wa) H := hP
          have hD : va_D (wF (vY cI cZ a th n mw nf sg fo L le sc li ba ca wa)) (vY cI cZ a 0 n mw nf sg fo L le (va_up sc i s0) (va_up li i (li i ||| 2 ^ t)) ba ca wa) := hD
          refine lv_iload_n S.1 S.2.1 dX1_enter_111 rfl (lv_at hl 3 rfl) ?_
          exact wr_ret S hr hlk (rfl) (rfl) hP (by first | rw [Nat.max_eq_right h97] | rw [Nat.max_eq_left (Nat.le_of_lt h97)]) hS dX1_enter_112
        · refine lv_aload_n S.1 S.2.1 dX1_enter_100 rfl (lv_at hl 0 rfl) ?_
          refine fX1_scores (v := .ref (a 5)) S hK hP rfl rfl dX1_enter_101 ?_
          refine lv_iload_n S.1 S.2.1 dX1_enter_104 rfl (lv_at hl 3 rfl) ?_
          refine n_iald S hK hP 5 0 rfl rfl dX1_enter_105 (j := i) (by decide) (by omega) ?_
          have b105 := hsc i
          refine lv_goto (tgt := 110) S.1 S.2.1 dX1_enter_106 (by decide) ?_
          refine n_iast S hK hP hD hS 5 0 rfl rfl dX1_enter_110 (j := i) (x := sc i) (by decide) (by omega) (fun H locs hP hD hS => ?_)
          have hP : va_P (dC, dI) vcl (vY cI cZ a 0 n mw nf sg fo L le (va_up sc i (sc i)) (va_up li i (li i ||| 2 ^ t)) ba ca wa) H := hP
          have hD : va_D (wF (vY cI cZ a th n mw nf sg fo L le sc li ba ca wa)) (vY cI cZ a 0 n mw nf sg fo L le (va_up sc i (sc i)) (va_up li i (li i ||| 2 ^ t)) ba ca wa) := hD
          refine lv_iload_n S.1 S.2.1 dX1_enter_111 rfl (lv_at hl 3 rfl) ?_
          exact wr_ret S hr hlk (rfl) (rfl) hP (by first | rw [Nat.max_eq_right h97] | rw [Nat.max_eq_left (Nat.le_of_lt h97)]) hS dX1_enter_112
      · refine lv_goto (tgt := 113) S.1 S.2.1 dX1_enter_66 (by decide) ?_
        refine n_iinc (lv' := [(3, .int (nI (i + 1))), (0, .ref (a 0)), (1, .int (nI t)), (2, .int (nI s0))]) (x := i) (k := 3) S dX1_enter_113 hl rfl (by decide) rfl (fun ls hl => ?_)
        refine lv_goto (tgt := 50) S.1 S.2.1 dX1_enter_116 (by decide) ?_
        exact ih (i + 1) (by rcases Nat.lt_or_ge i w with q | q; omega; exact absurd hf1 (by rw [show w = i by omega, h63]; decide)) (by rcases Nat.lt_or_ge i w with q | q; omega; exact absurd hf1 (by rw [show w = i by omega, h63]; decide)) _ _ hP hD hS ls (lv_sub hl [1, 2, 3, 0] rfl)
set_option maxRecDepth 100000 in
set_option maxHeartbeats 1000000 in
theorem kX1_enterO (l : Launch) (dC : Nat → ClassId) (dI : Nat → Nat → Nat) (cI cZ cJ : ClassId) (a : Nat → Nat) (th n mw nf : Nat) (sg fo L le sc li ba ca : Nat → Nat) (wa : Nat → Int32) (t : Nat) (s0 : Nat) (w : Nat) (hI : iv n mw nf sg fo L le sc li ba ca) (ht : t < 4) (hs : s0 ≤ 1000) (h0 : n ≠ 0) (hb : hbl n sg = false) (hw : w < mw) (hf1 : fit n sg fo L le w = true) (hf2 : ∀ j, j < w → fit n sg fo L le j = false) : wr l yX1_enter cX1_enter 4 (some .int) 3 66 [.ref (a 0), .int (nI t), .int (nI s0)] dC dI cI cZ cJ (vY cI cZ a th n mw nf sg fo L le sc li ba ca wa) (vY cI cZ a 0 n mw nf sg fo L le (va_up sc w (max (sc w) s0)) (va_up li w (li w ||| 2 ^ t)) ba ca wa) (some (.int (nI (w)))) := by
  refine wr_ofW RX1 (by decide) rfl (Nat.le_of_ble_eq_true rfl) ?_
  intro p e s m below meth c S hr hlk hK hP hD hS ls hl
  have hl : lv_has ls 4 [(0, .ref (a 0)), (1, .int (nI t)), (2, .int (nI s0))] := hl
  obtain ⟨⟨hn, hm, hf⟩, ⟨hsg, hfo, hL, hle, hsc, hli, hba, hca⟩, hv1, hv2, hv3, hv4, hv5, hv6, hv7⟩ := id hI
  refine lv_aload_n S.1 S.2.1 dX1_enter_0 rfl (lv_at hl 0 rfl) ?_
  refine lv_iload_n S.1 S.2.1 dX1_enter_1 rfl (lv_at hl 1 rfl) ?_
  refine rd_callS (As := [.int (nI t)]) (rest := [.ref (a 0)]) S (kX1_isList l ((nI t))) tr_blind (fun _ _ _ => trivial) gX1_68 hdX1_isList (by decide) hl.1 rfl (Nat.le_of_ble_eq_true rfl) dX1_enter_2 ⟨Nat.zero_le _, Nat.zero_le _⟩ ?_
  rw [isLi_n ht]
  refine n_bif_ne (b := true) (tgt := 12) S dX1_enter_5 (by decide) (fun h5 => ?_) (fun h5 => ?_)
  · refine lv_iconst (v := (nI 0)) S.1 S.2.1 dX1_enter_12 (by decide) ?_
    refine wr_callV (C := RX1) (As := [.int (nI 0)]) (rest := []) S (kX1_fails l dC dI cI cZ cJ a th n mw nf sg fo L le sc li ba ca wa false) hK [] [] hP hD hS rfl (va_recv hK hP (ci := 1) (q0 := 0) rfl rfl) gX1_52 hdX1_fails (by decide) hl.1 rfl (Nat.le_of_ble_eq_true rfl) dX1_enter_13 ⟨Nat.zero_le _, Nat.zero_le _⟩ (fun H locs hP hD hS => ?_)
    have hP : va_P (dC, dI) vcl (vY cI cZ a 0 n mw nf sg fo L le sc li ba ca wa) H := hP
    have hD : va_D (wF (vY cI cZ a th n mw nf sg fo L le sc li ba ca wa)) (vY cI cZ a 0 n mw nf sg fo L le sc li ba ca wa) := hD
    refine n_bif_eq (b := false) (tgt := 21) S dX1_enter_16 (by decide) (fun h16 => ?_) (fun h16 => ?_)
    · refine lv_aload_n S.1 S.2.1 dX1_enter_21 rfl (lv_at hl 0 rfl) ?_
      refine fX1_size (v := .int (nI n)) S hK hP rfl rfl dX1_enter_22 ?_
      refine n_if_eq (x := n) (tgt := 46) S dX1_enter_25 (by decide) (by omega) (fun h25 => ?_) (fun h25 => ?_)
      · exact absurd h25 h0
      · refine lv_aload_n S.1 S.2.1 dX1_enter_28 rfl (lv_at hl 0 rfl) ?_
        refine rd_callV (C := RX1) (As := []) (rest := []) S (kX1_hasBlank l dC dI cI cZ cJ a 0 n mw nf sg fo L le sc li ba ca wa hI) rB_blind (fun U hU hW => ⟨by rw [hU]; exact hP, va_K.moved hW.alike hK⟩) (va_recv hK hP (ci := 1) (q0 := 0) rfl rfl) gX1_71 hdX1_hasBlank (by decide) hl.1 rfl (Nat.le_of_ble_eq_true rfl) dX1_enter_29 ⟨Nat.zero_le _, Nat.zero_le _⟩ ?_
        refine n_bif_ne (b := hbl n sg) (tgt := 46) S dX1_enter_32 (by decide) (fun h32 => ?_) (fun h32 => ?_)
        · exact absurd h32 (by rw [hb]; decide)
        · refine lv_iload_n S.1 S.2.1 dX1_enter_35 rfl (lv_at hl 2 rfl) ?_
          refine n_if_lt (x := s0) (tgt := 46) S dX1_enter_36 (by decide) (by omega) ?_
          refine lv_iload_n S.1 S.2.1 dX1_enter_39 rfl (lv_at hl 2 rfl) ?_
          refine lv_sipush (v := (nI 1000)) S.1 S.2.1 dX1_enter_40 (by decide) ?_
          refine n_icmp_le (x := s0) (y := 1000) (tgt := 48) S dX1_enter_43 (by decide) (by omega) (by omega) (fun h43 => ?_) (fun h43 => ?_)
          · refine lv_iconst (v := (nI 0)) S.1 S.2.1 dX1_enter_48 (by decide) ?_
            refine lv_istore_n (lv' := [(3, .int (nI 0)), (0, .ref (a 0)), (1, .int (nI t)), (2, .int (nI s0))]) S.1 S.2.1 dX1_enter_49 rfl hl (by decide) rfl (fun ls hl => ?_)
            exact lX1_enterO_50 l dC dI cI cZ cJ a th n mw nf sg fo L le sc li ba ca wa t s0 w hI ht hs h0 hb hw hf1 hf2 S hr hlk hK _ 0 (Nat.lt_succ_self _) (by omega) _ _ hP hD hS ls (lv_sub hl [1, 2, 3, 0] rfl)
          · exact absurd hs (by omega)
    · exact absurd h16 (by decide)
  · exact absurd h5 (by decide)

set_option maxRecDepth 100000 in
set_option maxHeartbeats 1000000 in
theorem lX1_enterT_133 (l : Launch) (dC : Nat → ClassId) (dI : Nat → Nat → Nat) (cI cZ cJ : ClassId) (a : Nat → Nat) (th n mw nf : Nat) (sg fo L le sc li ba ca : Nat → Nat) (wa : Nat → Int32) (t : Nat) (s0 : Nat) (hI : iv n mw nf sg fo L le sc li ba ca) (ht : t < 4) (hs : s0 ≤ 1000) (h0 : n ≠ 0) (hb : hbl n sg = false) (hf2 : ∀ j, j < mw → fit n sg fo L le j = false) (hmw : mw < 250)  {p : Program} {e : Env} {s : State} {m : MethodId} {below : List Frame} {meth : Method} {c : Code} (S : CallFix p m c cX1_enter 4 s ([.ref (a 0), .int (nI t), .int (nI s0)] : List Value).toArray tbG RX1) (hr : meth.sig.returnType = (some .int)) (hlk : meth.locks = false) (hK : va_K (dC, dI) vcl (vty cI cZ cJ) s) :
    ∀ (fuel : Nat) (i : Nat), n - i < fuel → i ≤ n → ∀ (H : Heap) (locs : List Loc), va_P (dC, dI) vcl (vY cI cZ a 0 n mw nf sg fo (adL n mw i sg fo L) le sc li ba ca wa) H → va_D (wF (vY cI cZ a th n mw nf sg fo L le sc li ba ca wa)) (vY cI cZ a 0 n mw nf sg fo (adL n mw i sg fo L) le sc li ba ca wa) → va_S (wF (vY cI cZ a th n mw nf sg fo L le sc li ba ca wa)) s.heap H locs → ∀ ls : Array Slot, lv_has ls 4 [(0, .ref (a 0)), (1, .int (nI t)), (2, .int (nI s0)), (3, .int (nI i))] → W p l e ({ frames := 3, cells := 0, slots := 0, locals := 66 } : Room) s m ([.ref (a 0), .int (nI t), .int (nI s0)] : List Value).toArray below meth c H locs 0 0 (MQ below (Qw dC dI (vY cI cZ a th n mw nf sg fo L le sc li ba ca wa) (vY cI cZ a 0 n (mw + 1) nf sg fo (adL n mw n sg fo L) (va_up le mw n) (va_up sc mw s0) (va_up li mw (2 ^ t)) ba ca wa) (some (.int (nI (mw))))) ([.ref (a 0), .int (nI t), .int (nI s0)] : List Value).toArray s 0 0 (wF (vY cI cZ a th n mw nf sg fo L le sc li ba ca wa))) (F0 m 133 ls []) := by
  obtain ⟨⟨hn, hm, hf⟩, ⟨hsg, hfo, hL, hle, hsc, hli, hba, hca⟩, hv1, hv2, hv3, hv4, hv5, hv6, hv7⟩ := id hI
  intro fuel
  induction fuel with
  | zero =>
    intro i hq
    exact absurd hq (Nat.not_lt_zero _)
  | succ fuel ih =>
    intro i hq hi H locs hP hD hS ls hl
    refine lv_iload_n S.1 S.2.1 dX1_enter_133 rfl (lv_at hl 3 rfl) ?_
    refine lv_aload_n S.1 S.2.1 dX1_enter_134 rfl (lv_at hl 0 rfl) ?_
    refine fX1_size (v := .int (nI n)) S hK hP rfl rfl dX1_enter_135 ?_
    refine n_icmp_ge (x := i) (y := n) (tgt := 166) S dX1_enter_138 (by decide) (by omega) (by omega) (fun h138 => ?_) (fun h138 => ?_)
    · refine lv_aload_n S.1 S.2.1 dX1_enter_166 rfl (lv_at hl 0 rfl) ?_
      refine fX1_lengths (v := .ref (a 4)) S hK hP rfl rfl dX1_enter_167 ?_
      refine lv_aload_n S.1 S.2.1 dX1_enter_170 rfl (lv_at hl 0 rfl) ?_
      refine fX1_many (v := .int (nI mw)) S hK hP rfl rfl dX1_enter_171 ?_
      refine lv_aload_n S.1 S.2.1 dX1_enter_174 rfl (lv_at hl 0 rfl) ?_
      refine fX1_size (v := .int (nI n)) S hK hP rfl rfl dX1_enter_175 ?_
      refine n_iast S hK hP hD hS 4 0 rfl rfl dX1_enter_178 (j := mw) (x := n) (by decide) (by omega) (fun H locs hP hD hS => ?_)
      have hP : va_P (dC, dI) vcl (vY cI cZ a 0 n mw nf sg fo (adL n mw i sg fo L) (va_up le mw n) sc li ba ca wa) H := hP
      have hD : va_D (wF (vY cI cZ a th n mw nf sg fo L le sc li ba ca wa)) (vY cI cZ a 0 n mw nf sg fo (adL n mw i sg fo L) (va_up le mw n) sc li ba ca wa) := hD
      refine lv_aload_n S.1 S.2.1 dX1_enter_179 rfl (lv_at hl 0 rfl) ?_
      refine fX1_scores (v := .ref (a 5)) S hK hP rfl rfl dX1_enter_180 ?_
      refine lv_aload_n S.1 S.2.1 dX1_enter_183 rfl (lv_at hl 0 rfl) ?_
      refine fX1_many (v := .int (nI mw)) S hK hP rfl rfl dX1_enter_184 ?_
      refine lv_iload_n S.1 S.2.1 dX1_enter_187 rfl (lv_at hl 2 rfl) ?_
      refine n_iast S hK hP hD hS 5 0 rfl rfl dX1_enter_188 (j := mw) (x := s0) (by decide) (by omega) (fun H locs hP hD hS => ?_)
      have hP : va_P (dC, dI) vcl (vY cI cZ a 0 n mw nf sg fo (adL n mw i sg fo L) (va_up le mw n) (va_up sc mw s0) li ba ca wa) H := hP
      have hD : va_D (wF (vY cI cZ a th n mw nf sg fo L le sc li ba ca wa)) (vY cI cZ a 0 n mw nf sg fo (adL n mw i sg fo L) (va_up le mw n) (va_up sc mw s0) li ba ca wa) := hD
      refine lv_aload_n S.1 S.2.1 dX1_enter_189 rfl (lv_at hl 0 rfl) ?_
      refine fX1_lists (v := .ref (a 6)) S hK hP rfl rfl dX1_enter_190 ?_
      refine lv_aload_n S.1 S.2.1 dX1_enter_193 rfl (lv_at hl 0 rfl) ?_
      refine fX1_many (v := .int (nI mw)) S hK hP rfl rfl dX1_enter_194 ?_
      refine lv_iconst (v := (nI 1)) S.1 S.2.1 dX1_enter_197 (by decide) ?_
      refine lv_iload_n S.1 S.2.1 dX1_enter_198 rfl (lv_at hl 1 rfl) ?_
      refine lv_ishl S.1 S.2.1 dX1_enter_199 ?_
      rw [shl1 t ht]
      refine n_iast S hK hP hD hS 6 0 rfl rfl dX1_enter_200 (j := mw) (x := 2 ^ t) (by decide) (by omega) (fun H locs hP hD hS => ?_)
      have hP : va_P (dC, dI) vcl (vY cI cZ a 0 n mw nf sg fo (adL n mw i sg fo L) (va_up le mw n) (va_up sc mw s0) (va_up li mw (2 ^ t)) ba ca wa) H := hP
      have hD : va_D (wF (vY cI cZ a th n mw nf sg fo L le sc li ba ca wa)) (vY cI cZ a 0 n mw nf sg fo (adL n mw i sg fo L) (va_up le mw n) (va_up sc mw s0) (va_up li mw (2 ^ t)) ba ca wa) := hD
      refine lv_aload_n S.1 S.2.1 dX1_enter_201 rfl (lv_at hl 0 rfl) ?_
      refine fX1_barred (v := .ref (a 7)) S hK hP rfl rfl dX1_enter_202 ?_
      refine lv_aload_n S.1 S.2.1 dX1_enter_205 rfl (lv_at hl 0 rfl) ?_
      refine fX1_many (v := .int (nI mw)) S hK hP rfl rfl dX1_enter_206 ?_
      refine lv_iconst (v := (nI 0)) S.1 S.2.1 dX1_enter_209 (by decide) ?_
      refine n_zast S hK hP hD hS 7 1 rfl rfl dX1_enter_210 (j := mw) (x := 0) (by decide) (by omega) (by omega) (fun H locs hP hD hS => ?_)
      have hP : va_P (dC, dI) vcl (vY cI cZ a 0 n mw nf sg fo (adL n mw i sg fo L) (va_up le mw n) (va_up sc mw s0) (va_up li mw (2 ^ t)) (va_up ba mw 0) ca wa) H := hP
      have hD : va_D (wF (vY cI cZ a th n mw nf sg fo L le sc li ba ca wa)) (vY cI cZ a 0 n mw nf sg fo (adL n mw i sg fo L) (va_up le mw n) (va_up sc mw s0) (va_up li mw (2 ^ t)) (va_up ba mw 0) ca wa) := hD
      refine lv_aload_n S.1 S.2.1 dX1_enter_211 rfl (lv_at hl 0 rfl) ?_
      refine lv_dup S.1 S.2.1 dX1_enter_212 rfl ?_
      refine fX1_many (v := .int (nI mw)) S hK hP rfl rfl dX1_enter_213 ?_
      refine lv_iconst (v := (nI 1)) S.1 S.2.1 dX1_enter_216 (by decide) ?_
      refine n_iadd (x := mw) (y := 1) S dX1_enter_217 ?_
      refine pX1_many S hK hP hD hS rfl (Nat.le_of_ble_eq_true rfl) dX1_enter_218 (fun H locs hP hD hS => ?_)
      have hP : va_P (dC, dI) vcl (vY cI cZ a 0 n (mw + 1) nf sg fo (adL n mw i sg fo L) (va_up le mw n) (va_up sc mw s0) (va_up li mw (2 ^ t)) (va_up ba mw 0) ca wa) H := hP
      have hD : va_D (wF (vY cI cZ a th n mw nf sg fo L le sc li ba ca wa)) (vY cI cZ a 0 n (mw + 1) nf sg fo (adL n mw i sg fo L) (va_up le mw n) (va_up sc mw s0) (va_up li mw (2 ^ t)) (va_up ba mw 0) ca wa) := hD
      refine lv_aload_n S.1 S.2.1 dX1_enter_221 rfl (lv_at hl 0 rfl) ?_
      refine fX1_many (v := .int (nI (mw + 1))) S hK hP rfl rfl dX1_enter_222 ?_
      refine lv_iconst (v := (nI 1)) S.1 S.2.1 dX1_enter_225 (by decide) ?_
      refine n_isub (x := mw + 1) (y := 1) S dX1_enter_226 (by omega) ?_
      exact wr_ret S hr hlk (rfl) (by rw [Nat.add_sub_cancel]) hP (by rw [show i = n by omega, va_up_id (hv6 mw (Nat.le_refl _)).2.2]) hS dX1_enter_227
    · refine lv_aload_n S.1 S.2.1 dX1_enter_141 rfl (lv_at hl 0 rfl) ?_
      refine fX1_letters (v := .ref (a 3)) S hK hP rfl rfl dX1_enter_142 ?_
      refine lv_bipush (v := (nI 15)) S.1 S.2.1 dX1_enter_145 (by decide) ?_
      refine lv_aload_n S.1 S.2.1 dX1_enter_147 rfl (lv_at hl 0 rfl) ?_
      refine fX1_many (v := .int (nI mw)) S hK hP rfl rfl dX1_enter_148 ?_
      refine n_imul (x := 15) (y := mw) S dX1_enter_151 ?_
      refine lv_iload_n S.1 S.2.1 dX1_enter_152 rfl (lv_at hl 3 rfl) ?_
      refine n_iadd (x := 15 * mw) (y := i) S dX1_enter_153 ?_
      refine lv_aload_n S.1 S.2.1 dX1_enter_154 rfl (lv_at hl 0 rfl) ?_
      refine lv_iload_n S.1 S.2.1 dX1_enter_155 rfl (lv_at hl 3 rfl) ?_
      refine rd_callV (C := RX1) (As := [.int (nI i)]) (rest := [.int (nI ((15 * mw) + i)), .ref (a 3)]) S (kX1_signAt l dC dI cI cZ cJ a 0 n mw nf sg fo (adL n mw i sg fo L) le sc li ba ca wa i (iv_r hI) (by omega)) rB_blind (fun U hU hW => ⟨by rw [hU]; exact hP, va_K.moved hW.alike hK⟩) (va_recv hK hP (ci := 1) (q0 := 0) rfl rfl) gX1_56 hdX1_signAt (by decide) hl.1 rfl (Nat.le_of_ble_eq_true rfl) dX1_enter_156 ⟨Nat.zero_le _, Nat.zero_le _⟩ ?_
      refine n_iast S hK hP hD hS 3 0 rfl rfl dX1_enter_159 (j := (15 * mw) + i) (x := fsg sg fo i) (by decide) (by omega) (fun H locs hP hD hS => ?_)
      have hP : va_P (dC, dI) vcl (vY cI cZ a 0 n mw nf sg fo (va_up (adL n mw i sg fo L) ((15 * mw) + i) (fsg sg fo i)) le sc li ba ca wa) H := hP
      have hD : va_D (wF (vY cI cZ a th n mw nf sg fo L le sc li ba ca wa)) (vY cI cZ a 0 n mw nf sg fo (va_up (adL n mw i sg fo L) ((15 * mw) + i) (fsg sg fo i)) le sc li ba ca wa) := hD
      refine n_iinc (lv' := [(3, .int (nI (i + 1))), (0, .ref (a 0)), (1, .int (nI t)), (2, .int (nI s0))]) (x := i) (k := 3) S dX1_enter_160 hl rfl (by decide) rfl (fun ls hl => ?_)
      refine lv_goto (tgt := 133) S.1 S.2.1 dX1_enter_163 (by decide) ?_
      have e0 : vY cI cZ a 0 n mw nf sg fo (va_up (adL n mw i sg fo L) ((15 * mw) + i) (fsg sg fo i)) le sc li ba ca wa = vY cI cZ a 0 n mw nf sg fo (adL n mw (i + 1) sg fo L) le sc li ba ca wa := (by rw [adL_s])
      exact ih (i + 1) (by omega) (by omega) _ _ (by rw [← e0]; exact hP) (by rw [← e0]; exact hD) hS ls (lv_sub hl [1, 2, 3, 0] rfl)
set_option maxRecDepth 100000 in
set_option maxHeartbeats 1000000 in
theorem lX1_enterT_50 (l : Launch) (dC : Nat → ClassId) (dI : Nat → Nat → Nat) (cI cZ cJ : ClassId) (a : Nat → Nat) (th n mw nf : Nat) (sg fo L le sc li ba ca : Nat → Nat) (wa : Nat → Int32) (t : Nat) (s0 : Nat) (hI : iv n mw nf sg fo L le sc li ba ca) (ht : t < 4) (hs : s0 ≤ 1000) (h0 : n ≠ 0) (hb : hbl n sg = false) (hf2 : ∀ j, j < mw → fit n sg fo L le j = false) (hmw : mw < 250)  {p : Program} {e : Env} {s : State} {m : MethodId} {below : List Frame} {meth : Method} {c : Code} (S : CallFix p m c cX1_enter 4 s ([.ref (a 0), .int (nI t), .int (nI s0)] : List Value).toArray tbG RX1) (hr : meth.sig.returnType = (some .int)) (hlk : meth.locks = false) (hK : va_K (dC, dI) vcl (vty cI cZ cJ) s) :
    ∀ (fuel : Nat) (i : Nat), mw - i < fuel → i ≤ mw → ∀ (H : Heap) (locs : List Loc), va_P (dC, dI) vcl (vY cI cZ a 0 n mw nf sg fo L le sc li ba ca wa) H → va_D (wF (vY cI cZ a th n mw nf sg fo L le sc li ba ca wa)) (vY cI cZ a 0 n mw nf sg fo L le sc li ba ca wa) → va_S (wF (vY cI cZ a th n mw nf sg fo L le sc li ba ca wa)) s.heap H locs → ∀ ls : Array Slot, lv_has ls 4 [(0, .ref (a 0)), (1, .int (nI t)), (2, .int (nI s0)), (3, .int (nI i))] → W p l e ({ frames := 3, cells := 0, slots := 0, locals := 66 } : Room) s m ([.ref (a 0), .int (nI t), .int (nI s0)] : List Value).toArray below meth c H locs 0 0 (MQ below (Qw dC dI (vY cI cZ a th n mw nf sg fo L le sc li ba ca wa) (vY cI cZ a 0 n (mw + 1) nf sg fo (adL n mw n sg fo L) (va_up le mw n) (va_up sc mw s0) (va_up li mw (2 ^ t)) ba ca wa) (some (.int (nI (mw))))) ([.ref (a 0), .int (nI t), .int (nI s0)] : List Value).toArray s 0 0 (wF (vY cI cZ a th n mw nf sg fo L le sc li ba ca wa))) (F0 m 50 ls []) := by
  obtain ⟨⟨hn, hm, hf⟩, ⟨hsg, hfo, hL, hle, hsc, hli, hba, hca⟩, hv1, hv2, hv3, hv4, hv5, hv6, hv7⟩ := id hI
  intro fuel
  induction fuel with
  | zero =>
    intro i hq
    exact absurd hq (Nat.not_lt_zero _)
  | succ fuel ih =>
    intro i hq hi H locs hP hD hS ls hl
    refine lv_iload_n S.1 S.2.1 dX1_enter_50 rfl (lv_at hl 3 rfl) ?_
    refine lv_aload_n S.1 S.2.1 dX1_enter_51 rfl (lv_at hl 0 rfl) ?_
    refine fX1_many (v := .int (nI mw)) S hK hP rfl rfl dX1_enter_52 ?_
    refine n_icmp_ge (x := i) (y := mw) (tgt := 119) S dX1_enter_55 (by decide) (by omega) (by omega) (fun h55 => ?_) (fun h55 => ?_)
    · refine lv_aload_n S.1 S.2.1 dX1_enter_119 rfl (lv_at hl 0 rfl) ?_
      refine fX1_many (v := .int (nI mw)) S hK hP rfl rfl dX1_enter_120 ?_
      refine lv_sipush (v := (nI 250)) S.1 S.2.1 dX1_enter_123 (by decide) ?_
      refine n_icmp_ne (x := mw) (y := 250) (tgt := 131) S dX1_enter_126 (by decide) (by omega) (by omega) (fun h126 => ?_) (fun h126 => ?_)
      · refine lv_iconst (v := (nI 0)) S.1 S.2.1 dX1_enter_131 (by decide) ?_
        refine lv_istore_n (lv' := [(3, .int (nI 0)), (0, .ref (a 0)), (1, .int (nI t)), (2, .int (nI s0))]) S.1 S.2.1 dX1_enter_132 rfl hl (by decide) rfl (fun ls hl => ?_)
        have e0 : vY cI cZ a 0 n mw nf sg fo L le sc li ba ca wa = vY cI cZ a 0 n mw nf sg fo (adL n mw 0 sg fo L) le sc li ba ca wa := (by rw [adL_0])
        exact lX1_enterT_133 l dC dI cI cZ cJ a th n mw nf sg fo L le sc li ba ca wa t s0 hI ht hs h0 hb hf2 hmw S hr hlk hK _ 0 (Nat.lt_succ_self _) (by omega) _ _ (by rw [← e0]; exact hP) (by rw [← e0]; exact hD) hS ls (lv_sub hl [1, 2, 3, 0] rfl)
      · exact absurd hmw (by omega)
    · refine lv_aload_n S.1 S.2.1 dX1_enter_58 rfl (lv_at hl 0 rfl) ?_
      refine lv_iload_n S.1 S.2.1 dX1_enter_59 rfl (lv_at hl 3 rfl) ?_
      refine rd_callV (C := RX1) (As := [.int (nI i)]) (rest := []) S (kX1_fits l dC dI cI cZ cJ a 0 n mw nf sg fo L le sc li ba ca wa i hI (by omega)) rB_blind (fun U hU hW => ⟨by rw [hU]; exact hP, va_K.moved hW.alike hK⟩) (va_recv hK hP (ci := 1) (q0 := 0) rfl rfl) gX1_75 hdX1_fits (by decide) hl.1 rfl (Nat.le_of_ble_eq_true rfl) dX1_enter_60 ⟨Nat.zero_le _, Nat.zero_le _⟩ ?_
      refine n_bif_ne (b := fit n sg fo L le i) (tgt := 69) S dX1_enter_63 (by decide) (fun h63 => ?_) (fun h63 => ?_)
      · exact absurd (hf2 i (by omega)) (by rw [h63]; decide)
      · refine lv_goto (tgt := 113) S.1 S.2.1 dX1_enter_66 (by decide) ?_
        refine n_iinc (lv' := [(3, .int (nI (i + 1))), (0, .ref (a 0)), (1, .int (nI t)), (2, .int (nI s0))]) (x := i) (k := 3) S dX1_enter_113 hl rfl (by decide) rfl (fun ls hl => ?_)
        refine lv_goto (tgt := 50) S.1 S.2.1 dX1_enter_116 (by decide) ?_
        exact ih (i + 1) (by omega) (by omega) _ _ hP hD hS ls (lv_sub hl [1, 2, 3, 0] rfl)
set_option maxRecDepth 100000 in
set_option maxHeartbeats 1000000 in
theorem kX1_enterT (l : Launch) (dC : Nat → ClassId) (dI : Nat → Nat → Nat) (cI cZ cJ : ClassId) (a : Nat → Nat) (th n mw nf : Nat) (sg fo L le sc li ba ca : Nat → Nat) (wa : Nat → Int32) (t : Nat) (s0 : Nat) (hI : iv n mw nf sg fo L le sc li ba ca) (ht : t < 4) (hs : s0 ≤ 1000) (h0 : n ≠ 0) (hb : hbl n sg = false) (hf2 : ∀ j, j < mw → fit n sg fo L le j = false) (hmw : mw < 250) : wr l yX1_enter cX1_enter 4 (some .int) 3 66 [.ref (a 0), .int (nI t), .int (nI s0)] dC dI cI cZ cJ (vY cI cZ a th n mw nf sg fo L le sc li ba ca wa) (vY cI cZ a 0 n (mw + 1) nf sg fo (adL n mw n sg fo L) (va_up le mw n) (va_up sc mw s0) (va_up li mw (2 ^ t)) ba ca wa) (some (.int (nI (mw)))) := by
  refine wr_ofW RX1 (by decide) rfl (Nat.le_of_ble_eq_true rfl) ?_
  intro p e s m below meth c S hr hlk hK hP hD hS ls hl
  have hl : lv_has ls 4 [(0, .ref (a 0)), (1, .int (nI t)), (2, .int (nI s0))] := hl
  obtain ⟨⟨hn, hm, hf⟩, ⟨hsg, hfo, hL, hle, hsc, hli, hba, hca⟩, hv1, hv2, hv3, hv4, hv5, hv6, hv7⟩ := id hI
  refine lv_aload_n S.1 S.2.1 dX1_enter_0 rfl (lv_at hl 0 rfl) ?_
  refine lv_iload_n S.1 S.2.1 dX1_enter_1 rfl (lv_at hl 1 rfl) ?_
  refine rd_callS (As := [.int (nI t)]) (rest := [.ref (a 0)]) S (kX1_isList l ((nI t))) tr_blind (fun _ _ _ => trivial) gX1_68 hdX1_isList (by decide) hl.1 rfl (Nat.le_of_ble_eq_true rfl) dX1_enter_2 ⟨Nat.zero_le _, Nat.zero_le _⟩ ?_
  rw [isLi_n ht]
  refine n_bif_ne (b := true) (tgt := 12) S dX1_enter_5 (by decide) (fun h5 => ?_) (fun h5 => ?_)
  · refine lv_iconst (v := (nI 0)) S.1 S.2.1 dX1_enter_12 (by decide) ?_
    refine wr_callV (C := RX1) (As := [.int (nI 0)]) (rest := []) S (kX1_fails l dC dI cI cZ cJ a th n mw nf sg fo L le sc li ba ca wa false) hK [] [] hP hD hS rfl (va_recv hK hP (ci := 1) (q0 := 0) rfl rfl) gX1_52 hdX1_fails (by decide) hl.1 rfl (Nat.le_of_ble_eq_true rfl) dX1_enter_13 ⟨Nat.zero_le _, Nat.zero_le _⟩ (fun H locs hP hD hS => ?_)
    have hP : va_P (dC, dI) vcl (vY cI cZ a 0 n mw nf sg fo L le sc li ba ca wa) H := hP
    have hD : va_D (wF (vY cI cZ a th n mw nf sg fo L le sc li ba ca wa)) (vY cI cZ a 0 n mw nf sg fo L le sc li ba ca wa) := hD
    refine n_bif_eq (b := false) (tgt := 21) S dX1_enter_16 (by decide) (fun h16 => ?_) (fun h16 => ?_)
    · refine lv_aload_n S.1 S.2.1 dX1_enter_21 rfl (lv_at hl 0 rfl) ?_
      refine fX1_size (v := .int (nI n)) S hK hP rfl rfl dX1_enter_22 ?_
      refine n_if_eq (x := n) (tgt := 46) S dX1_enter_25 (by decide) (by omega) (fun h25 => ?_) (fun h25 => ?_)
      · exact absurd h25 h0
      · refine lv_aload_n S.1 S.2.1 dX1_enter_28 rfl (lv_at hl 0 rfl) ?_
        refine rd_callV (C := RX1) (As := []) (rest := []) S (kX1_hasBlank l dC dI cI cZ cJ a 0 n mw nf sg fo L le sc li ba ca wa hI) rB_blind (fun U hU hW => ⟨by rw [hU]; exact hP, va_K.moved hW.alike hK⟩) (va_recv hK hP (ci := 1) (q0 := 0) rfl rfl) gX1_71 hdX1_hasBlank (by decide) hl.1 rfl (Nat.le_of_ble_eq_true rfl) dX1_enter_29 ⟨Nat.zero_le _, Nat.zero_le _⟩ ?_
        refine n_bif_ne (b := hbl n sg) (tgt := 46) S dX1_enter_32 (by decide) (fun h32 => ?_) (fun h32 => ?_)
        · exact absurd h32 (by rw [hb]; decide)
        · refine lv_iload_n S.1 S.2.1 dX1_enter_35 rfl (lv_at hl 2 rfl) ?_
          refine n_if_lt (x := s0) (tgt := 46) S dX1_enter_36 (by decide) (by omega) ?_
          refine lv_iload_n S.1 S.2.1 dX1_enter_39 rfl (lv_at hl 2 rfl) ?_
          refine lv_sipush (v := (nI 1000)) S.1 S.2.1 dX1_enter_40 (by decide) ?_
          refine n_icmp_le (x := s0) (y := 1000) (tgt := 48) S dX1_enter_43 (by decide) (by omega) (by omega) (fun h43 => ?_) (fun h43 => ?_)
          · refine lv_iconst (v := (nI 0)) S.1 S.2.1 dX1_enter_48 (by decide) ?_
            refine lv_istore_n (lv' := [(3, .int (nI 0)), (0, .ref (a 0)), (1, .int (nI t)), (2, .int (nI s0))]) S.1 S.2.1 dX1_enter_49 rfl hl (by decide) rfl (fun ls hl => ?_)
            exact lX1_enterT_50 l dC dI cI cZ cJ a th n mw nf sg fo L le sc li ba ca wa t s0 hI ht hs h0 hb hf2 hmw S hr hlk hK _ 0 (Nat.lt_succ_self _) (by omega) _ _ hP hD hS ls (lv_sub hl [1, 2, 3, 0] rfl)
          · exact absurd hs (by omega)
    · exact absurd h16 (by decide)
  · exact absurd h5 (by decide)

set_option maxRecDepth 100000 in
set_option maxHeartbeats 1000000 in
theorem lX1_bar_9 (l : Launch) (dC : Nat → ClassId) (dI : Nat → Nat → Nat) (cI cZ cJ : ClassId) (a : Nat → Nat) (th n mw nf : Nat) (sg fo L le sc li ba ca : Nat → Nat) (wa : Nat → Int32) (on : Bool) (hI : iv n mw nf sg fo L le sc li ba ca)  {p : Program} {e : Env} {s : State} {m : MethodId} {below : List Frame} {meth : Method} {c : Code} (S : CallFix p m c cX1_bar 4 s ([.ref (a 0), .int (nI on.toNat)] : List Value).toArray tbG RX1) (hr : meth.sig.returnType = (some .int)) (hlk : meth.locks = false) (hK : va_K (dC, dI) vcl (vty cI cZ cJ) s) :
    ∀ (fuel : Nat) (i : Nat) (k : Nat), mw - i < fuel → i ≤ mw → k = cnt (brP on (fit n sg fo L le) ba) i → ∀ (H : Heap) (locs : List Loc), va_P (dC, dI) vcl (vY cI cZ a 0 n mw nf sg fo L le sc li (brF on (fit n sg fo L le) ba i) ca wa) H → va_D (wF (vY cI cZ a th n mw nf sg fo L le sc li ba ca wa)) (vY cI cZ a 0 n mw nf sg fo L le sc li (brF on (fit n sg fo L le) ba i) ca wa) → va_S (wF (vY cI cZ a th n mw nf sg fo L le sc li ba ca wa)) s.heap H locs → ∀ ls : Array Slot, lv_has ls 4 [(0, .ref (a 0)), (1, .int (nI (on).toNat)), (2, .int (nI k)), (3, .int (nI i))] → W p l e ({ frames := 3, cells := 0, slots := 0, locals := 66 } : Room) s m ([.ref (a 0), .int (nI on.toNat)] : List Value).toArray below meth c H locs 0 0 (MQ below (Qw dC dI (vY cI cZ a th n mw nf sg fo L le sc li ba ca wa) (vY cI cZ a 0 n mw nf sg fo L le sc li (brF on (fit n sg fo L le) ba mw) ca wa) (some (.int (nI (cnt (brP on (fit n sg fo L le) ba) mw))))) ([.ref (a 0), .int (nI on.toNat)] : List Value).toArray s 0 0 (wF (vY cI cZ a th n mw nf sg fo L le sc li ba ca wa))) (F0 m 9 ls []) := by
  obtain ⟨⟨hn, hm, hf⟩, ⟨hsg, hfo, hL, hle, hsc, hli, hba, hca⟩, hv1, hv2, hv3, hv4, hv5, hv6, hv7⟩ := id hI
  intro fuel
  induction fuel with
  | zero =>
    intro i k hq
    exact absurd hq (Nat.not_lt_zero _)
  | succ fuel ih =>
    intro i k hq hi hk H locs hP hD hS ls hl
    have hki := cnt_le (brP on (fit n sg fo L le) ba) i
    have hI2 := iv_ba hI on (fit n sg fo L le) i hi
    refine lv_iload_n S.1 S.2.1 dX1_bar_9 rfl (lv_at hl 3 rfl) ?_
    refine lv_aload_n S.1 S.2.1 dX1_bar_10 rfl (lv_at hl 0 rfl) ?_
    refine fX1_many (v := .int (nI mw)) S hK hP rfl rfl dX1_bar_11 ?_
    refine n_icmp_ge (x := i) (y := mw) (tgt := 54) S dX1_bar_14 (by decide) (by omega) (by omega) (fun h14 => ?_) (fun h14 => ?_)
    · refine lv_iload_n S.1 S.2.1 dX1_bar_54 rfl (lv_at hl 2 rfl) ?_
      exact wr_ret S hr hlk (rfl) (by rw [hk, show i = mw by omega]) hP (by rw [show i = mw by omega]) hS dX1_bar_55
    · refine lv_aload_n S.1 S.2.1 dX1_bar_17 rfl (lv_at hl 0 rfl) ?_
      refine lv_iload_n S.1 S.2.1 dX1_bar_18 rfl (lv_at hl 3 rfl) ?_
      refine rd_callV (C := RX1) (As := [.int (nI i)]) (rest := []) S (kX1_fits l dC dI cI cZ cJ a 0 n mw nf sg fo L le sc li (brF on (fit n sg fo L le) ba i) ca wa i hI2 (by omega)) rB_blind (fun U hU hW => ⟨by rw [hU]; exact hP, va_K.moved hW.alike hK⟩) (va_recv hK hP (ci := 1) (q0 := 0) rfl rfl) gX1_75 hdX1_fits (by decide) hl.1 rfl (Nat.le_of_ble_eq_true rfl) dX1_bar_19 ⟨Nat.zero_le _, Nat.zero_le _⟩ ?_
      refine n_bif_eq (b := fit n sg fo L le i) (tgt := 48) S dX1_bar_22 (by decide) (fun h22 => ?_) (fun h22 => ?_)
      · refine n_iinc (lv' := [(3, .int (nI (i + 1))), (0, .ref (a 0)), (1, .int (nI (on).toNat)), (2, .int (nI k))]) (x := i) (k := 3) S dX1_bar_48 hl rfl (by decide) rfl (fun ls hl => ?_)
        refine lv_goto (tgt := 9) S.1 S.2.1 dX1_bar_51 (by decide) ?_
        have e0 : vY cI cZ a 0 n mw nf sg fo L le sc li (brF on (fit n sg fo L le) ba i) ca wa = vY cI cZ a 0 n mw nf sg fo L le sc li (brF on (fit n sg fo L le) ba (i + 1)) ca wa := (by first | rw [brF_t h22] | rw [brF_e h32] | rw [brF_f h22])
        exact ih (i + 1) k (by omega) (by omega) (by rw [cnt, ← hk, brP]; first | (rw [h22, decide_eq_false (Classical.not_not.mpr h32)] <;> rfl) | (rw [h22, decide_eq_true h32] <;> rfl) | (rw [h22] <;> rfl)) _ _ (by rw [← e0]; exact hP) (by rw [← e0]; exact hD) hS ls (lv_sub hl [1, 2, 3, 0] rfl)
      · refine lv_aload_n S.1 S.2.1 dX1_bar_25 rfl (lv_at hl 0 rfl) ?_
        refine fX1_barred (v := .ref (a 7)) S hK hP rfl rfl dX1_bar_26 ?_
        refine lv_iload_n S.1 S.2.1 dX1_bar_29 rfl (lv_at hl 3 rfl) ?_
        refine n_zald S hK hP 7 1 rfl rfl dX1_bar_30 (j := i) (by decide) (by omega) ?_
        rw [brF_at]
        have b30 := hba i
        refine lv_iload_n S.1 S.2.1 dX1_bar_31 rfl (lv_at hl 1 rfl) ?_
        refine n_icmp_ne (x := ba i) (y := (on).toNat) (tgt := 38) S dX1_bar_32 (by decide) (by omega) (by cases on <;> decide) (fun h32 => ?_) (fun h32 => ?_)
        · refine lv_aload_n S.1 S.2.1 dX1_bar_38 rfl (lv_at hl 0 rfl) ?_
          refine fX1_barred (v := .ref (a 7)) S hK hP rfl rfl dX1_bar_39 ?_
          refine lv_iload_n S.1 S.2.1 dX1_bar_42 rfl (lv_at hl 3 rfl) ?_
          refine lv_iload_n S.1 S.2.1 dX1_bar_43 rfl (lv_at hl 1 rfl) ?_
          refine n_zast S hK hP hD hS 7 1 rfl rfl dX1_bar_44 (j := i) (x := (on).toNat) (by decide) (by omega) (by cases on <;> decide) (fun H locs hP hD hS => ?_)
          have hP : va_P (dC, dI) vcl (vY cI cZ a 0 n mw nf sg fo L le sc li (va_up (brF on (fit n sg fo L le) ba i) i ((on).toNat)) ca wa) H := hP
          have hD : va_D (wF (vY cI cZ a th n mw nf sg fo L le sc li ba ca wa)) (vY cI cZ a 0 n mw nf sg fo L le sc li (va_up (brF on (fit n sg fo L le) ba i) i ((on).toNat)) ca wa) := hD
          refine n_iinc (lv' := [(2, .int (nI (k + 1))), (0, .ref (a 0)), (1, .int (nI (on).toNat)), (3, .int (nI i))]) (x := k) (k := 2) S dX1_bar_45 hl rfl (by decide) rfl (fun ls hl => ?_)
          refine n_iinc (lv' := [(3, .int (nI (i + 1))), (2, .int (nI (k + 1))), (0, .ref (a 0)), (1, .int (nI (on).toNat))]) (x := i) (k := 3) S dX1_bar_48 hl rfl (by decide) rfl (fun ls hl => ?_)
          refine lv_goto (tgt := 9) S.1 S.2.1 dX1_bar_51 (by decide) ?_
          have e0 : vY cI cZ a 0 n mw nf sg fo L le sc li (va_up (brF on (fit n sg fo L le) ba i) i ((on).toNat)) ca wa = vY cI cZ a 0 n mw nf sg fo L le sc li (brF on (fit n sg fo L le) ba (i + 1)) ca wa := (by first | rw [brF_t h22] | rw [brF_e h32] | rw [brF_f h22])
          exact ih (i + 1) (k + 1) (by omega) (by omega) (by rw [cnt, ← hk, brP]; first | (rw [h22, decide_eq_false (Classical.not_not.mpr h32)] <;> rfl) | (rw [h22, decide_eq_true h32] <;> rfl) | (rw [h22] <;> rfl)) _ _ (by rw [← e0]; exact hP) (by rw [← e0]; exact hD) hS ls (lv_sub hl [2, 3, 1, 0] rfl)
        · refine lv_goto (tgt := 48) S.1 S.2.1 dX1_bar_35 (by decide) ?_
          refine n_iinc (lv' := [(3, .int (nI (i + 1))), (0, .ref (a 0)), (1, .int (nI (on).toNat)), (2, .int (nI k))]) (x := i) (k := 3) S dX1_bar_48 hl rfl (by decide) rfl (fun ls hl => ?_)
          refine lv_goto (tgt := 9) S.1 S.2.1 dX1_bar_51 (by decide) ?_
          have e0 : vY cI cZ a 0 n mw nf sg fo L le sc li (brF on (fit n sg fo L le) ba i) ca wa = vY cI cZ a 0 n mw nf sg fo L le sc li (brF on (fit n sg fo L le) ba (i + 1)) ca wa := (by first | rw [brF_t h22] | rw [brF_e h32] | rw [brF_f h22])
          exact ih (i + 1) k (by omega) (by omega) (by rw [cnt, ← hk, brP]; first | (rw [h22, decide_eq_false (Classical.not_not.mpr h32)] <;> rfl) | (rw [h22, decide_eq_true h32] <;> rfl) | (rw [h22] <;> rfl)) _ _ (by rw [← e0]; exact hP) (by rw [← e0]; exact hD) hS ls (lv_sub hl [1, 2, 3, 0] rfl)
set_option maxRecDepth 100000 in
set_option maxHeartbeats 1000000 in
theorem kX1_bar (l : Launch) (dC : Nat → ClassId) (dI : Nat → Nat → Nat) (cI cZ cJ : ClassId) (a : Nat → Nat) (th n mw nf : Nat) (sg fo L le sc li ba ca : Nat → Nat) (wa : Nat → Int32) (on : Bool) (hI : iv n mw nf sg fo L le sc li ba ca) : wr l yX1_bar cX1_bar 4 (some .int) 3 66 [.ref (a 0), .int (nI on.toNat)] dC dI cI cZ cJ (vY cI cZ a th n mw nf sg fo L le sc li ba ca wa) (vY cI cZ a 0 n mw nf sg fo L le sc li (brF on (fit n sg fo L le) ba mw) ca wa) (some (.int (nI (cnt (brP on (fit n sg fo L le) ba) mw)))) := by
  refine wr_ofW RX1 (by decide) rfl (Nat.le_of_ble_eq_true rfl) ?_
  intro p e s m below meth c S hr hlk hK hP hD hS ls hl
  have hl : lv_has ls 4 [(0, .ref (a 0)), (1, .int (nI (on).toNat))] := hl
  obtain ⟨⟨hn, hm, hf⟩, ⟨hsg, hfo, hL, hle, hsc, hli, hba, hca⟩, hv1, hv2, hv3, hv4, hv5, hv6, hv7⟩ := id hI
  refine lv_aload_n S.1 S.2.1 dX1_bar_0 rfl (lv_at hl 0 rfl) ?_
  refine lv_iconst (v := (nI 0)) S.1 S.2.1 dX1_bar_1 (by decide) ?_
  refine pX1_thrown S hK hP hD hS rfl (Nat.le_of_ble_eq_true rfl) dX1_bar_2 (fun H locs hP hD hS => ?_)
  have hP : va_P (dC, dI) vcl (vY cI cZ a 0 n mw nf sg fo L le sc li ba ca wa) H := hP
  have hD : va_D (wF (vY cI cZ a th n mw nf sg fo L le sc li ba ca wa)) (vY cI cZ a 0 n mw nf sg fo L le sc li ba ca wa) := hD
  refine lv_iconst (v := (nI 0)) S.1 S.2.1 dX1_bar_5 (by decide) ?_
  refine lv_istore_n (lv' := [(2, .int (nI 0)), (0, .ref (a 0)), (1, .int (nI (on).toNat))]) S.1 S.2.1 dX1_bar_6 rfl hl (by decide) rfl (fun ls hl => ?_)
  refine lv_iconst (v := (nI 0)) S.1 S.2.1 dX1_bar_7 (by decide) ?_
  refine lv_istore_n (lv' := [(3, .int (nI 0)), (2, .int (nI 0)), (0, .ref (a 0)), (1, .int (nI (on).toNat))]) S.1 S.2.1 dX1_bar_8 rfl hl (by decide) rfl (fun ls hl => ?_)
  have e0 : vY cI cZ a 0 n mw nf sg fo L le sc li ba ca wa = vY cI cZ a 0 n mw nf sg fo L le sc li (brF on (fit n sg fo L le) ba 0) ca wa := (by rw [brF_0])
  exact lX1_bar_9 l dC dI cI cZ cJ a th n mw nf sg fo L le sc li ba ca wa on hI S hr hlk hK _ 0 0 (Nat.lt_succ_self _) (by omega) rfl _ _ (by rw [← e0]; exact hP) (by rw [← e0]; exact hD) hS ls (lv_sub hl [2, 3, 1, 0] rfl)
end
