-- ===== PART A: goes FIRST, ahead of the names: the tables' words, and 'selects' of the private methods out of them =====
/-- a private method of a class that the tables say can be made, by its rows of tables_1 -/
def lw_okq (q : MethodName × Nat) : Prop := (q.1.cls ≠ "java/lang/invoke/MethodHandle" ∧ q.1.cls ≠ "java/lang/invoke/VarHandle") ∧ Cond.instantiable q.1.cls q.2 ∈ tables_1 ∧ Cond.privateMethod q.1 ∈ tables_1 ∧ Cond.instanceMethod q.1 ∈ tables_1
theorem lw_p0 : lw_okq (⟨"java/lang/Throwable", "fillInStackTrace", "(I)Ljava/lang/Throwable;"⟩, 6) := ⟨⟨by decide +kernel, by decide +kernel⟩, List.mem_of_getElem? (i := 327) (by decide +kernel), List.mem_of_getElem? (i := 325) (by decide +kernel), List.mem_of_getElem? (i := 326) (by decide +kernel)⟩
theorem lw_p1 : lw_okq (⟨"CheckCodes$NibbleCode", "wordFlipsFor", "(III)J"⟩, 3) := ⟨⟨by decide +kernel, by decide +kernel⟩, List.mem_of_getElem? (i := 137) (by decide +kernel), List.mem_of_getElem? (i := 428) (by decide +kernel), List.mem_of_getElem? (i := 429) (by decide +kernel)⟩
theorem lw_p2 : lw_okq (⟨"CheckCodes", "isStoredBit", "(I)Z"⟩, 17) := ⟨⟨by decide +kernel, by decide +kernel⟩, List.mem_of_getElem? (i := 20) (by decide +kernel), List.mem_of_getElem? (i := 458) (by decide +kernel), List.mem_of_getElem? (i := 459) (by decide +kernel)⟩
theorem lw_p3 : lw_okq (⟨"CheckCodes", "answerToPair", "(II)I"⟩, 17) := ⟨⟨by decide +kernel, by decide +kernel⟩, List.mem_of_getElem? (i := 20) (by decide +kernel), List.mem_of_getElem? (i := 463) (by decide +kernel), List.mem_of_getElem? (i := 464) (by decide +kernel)⟩
theorem lw_p4 : lw_okq (⟨"CheckCodes", "wordPart", "(I)J"⟩, 17) := ⟨⟨by decide +kernel, by decide +kernel⟩, List.mem_of_getElem? (i := 20) (by decide +kernel), List.mem_of_getElem? (i := 474) (by decide +kernel), List.mem_of_getElem? (i := 475) (by decide +kernel)⟩
theorem lw_p5 : lw_okq (⟨"CheckCodes", "checkPart", "(I)I"⟩, 17) := ⟨⟨by decide +kernel, by decide +kernel⟩, List.mem_of_getElem? (i := 20) (by decide +kernel), List.mem_of_getElem? (i := 478) (by decide +kernel), List.mem_of_getElem? (i := 479) (by decide +kernel)⟩
theorem lw_p6 : lw_okq (⟨"CheckCodes", "answerTo", "(IJI)I"⟩, 17) := ⟨⟨by decide +kernel, by decide +kernel⟩, List.mem_of_getElem? (i := 20) (by decide +kernel), List.mem_of_getElem? (i := 482) (by decide +kernel), List.mem_of_getElem? (i := 483) (by decide +kernel)⟩
theorem lw_p7 : lw_okq (⟨"CheckCodes", "countAnswers", "()V"⟩, 17) := ⟨⟨by decide +kernel, by decide +kernel⟩, List.mem_of_getElem? (i := 20) (by decide +kernel), List.mem_of_getElem? (i := 494) (by decide +kernel), List.mem_of_getElem? (i := 495) (by decide +kernel)⟩
theorem lw_p8 : lw_okq (⟨"CheckCodes", "addToCount", "(I)V"⟩, 17) := ⟨⟨by decide +kernel, by decide +kernel⟩, List.mem_of_getElem? (i := 20) (by decide +kernel), List.mem_of_getElem? (i := 498) (by decide +kernel), List.mem_of_getElem? (i := 499) (by decide +kernel)⟩
theorem lw_p9 : lw_okq (⟨"CheckCodes", "findLongestMendedBurst", "()I"⟩, 17) := ⟨⟨by decide +kernel, by decide +kernel⟩, List.mem_of_getElem? (i := 20) (by decide +kernel), List.mem_of_getElem? (i := 510) (by decide +kernel), List.mem_of_getElem? (i := 511) (by decide +kernel)⟩
theorem lw_p10 : lw_okq (⟨"CheckCodes", "allMended", "(I)Z"⟩, 17) := ⟨⟨by decide +kernel, by decide +kernel⟩, List.mem_of_getElem? (i := 20) (by decide +kernel), List.mem_of_getElem? (i := 514) (by decide +kernel), List.mem_of_getElem? (i := 515) (by decide +kernel)⟩
theorem lw_p11 : lw_okq (⟨"CheckCodes", "answerToPattern", "(II)I"⟩, 17) := ⟨⟨by decide +kernel, by decide +kernel⟩, List.mem_of_getElem? (i := 20) (by decide +kernel), List.mem_of_getElem? (i := 518) (by decide +kernel), List.mem_of_getElem? (i := 519) (by decide +kernel)⟩
theorem lw_p12 : lw_okq (⟨"CheckCodes", "findSpare", "(I)I"⟩, 17) := ⟨⟨by decide +kernel, by decide +kernel⟩, List.mem_of_getElem? (i := 20) (by decide +kernel), List.mem_of_getElem? (i := 534) (by decide +kernel), List.mem_of_getElem? (i := 535) (by decide +kernel)⟩
theorem lw_p13 : lw_okq (⟨"CheckCodesModel", "choose", "(I)V"⟩, 21) := ⟨⟨by decide +kernel, by decide +kernel⟩, List.mem_of_getElem? (i := 557) (by decide +kernel), List.mem_of_getElem? (i := 564) (by decide +kernel), List.mem_of_getElem? (i := 565) (by decide +kernel)⟩
theorem lw_p14 : lw_okq (⟨"CheckCodesModel", "most", "(I)I"⟩, 21) := ⟨⟨by decide +kernel, by decide +kernel⟩, List.mem_of_getElem? (i := 557) (by decide +kernel), List.mem_of_getElem? (i := 571) (by decide +kernel), List.mem_of_getElem? (i := 572) (by decide +kernel)⟩
theorem lw_p15 : lw_okq (⟨"CheckCodesModel", "fails", "(ZZ)Z"⟩, 21) := ⟨⟨by decide +kernel, by decide +kernel⟩, List.mem_of_getElem? (i := 557) (by decide +kernel), List.mem_of_getElem? (i := 655) (by decide +kernel), List.mem_of_getElem? (i := 656) (by decide +kernel)⟩
def lw_privs_1 : List (MethodName × Nat) := [(⟨"java/lang/Throwable", "fillInStackTrace", "(I)Ljava/lang/Throwable;"⟩, 6), (⟨"CheckCodes$NibbleCode", "wordFlipsFor", "(III)J"⟩, 3), (⟨"CheckCodes", "isStoredBit", "(I)Z"⟩, 17), (⟨"CheckCodes", "answerToPair", "(II)I"⟩, 17), (⟨"CheckCodes", "wordPart", "(I)J"⟩, 17), (⟨"CheckCodes", "checkPart", "(I)I"⟩, 17), (⟨"CheckCodes", "answerTo", "(IJI)I"⟩, 17), (⟨"CheckCodes", "countAnswers", "()V"⟩, 17), (⟨"CheckCodes", "addToCount", "(I)V"⟩, 17), (⟨"CheckCodes", "findLongestMendedBurst", "()I"⟩, 17), (⟨"CheckCodes", "allMended", "(I)Z"⟩, 17), (⟨"CheckCodes", "answerToPattern", "(II)I"⟩, 17), (⟨"CheckCodes", "findSpare", "(I)I"⟩, 17), (⟨"CheckCodesModel", "choose", "(I)V"⟩, 21), (⟨"CheckCodesModel", "most", "(I)I"⟩, 21), (⟨"CheckCodesModel", "fails", "(ZZ)Z"⟩, 21)]
theorem lw_r1 : ∀ q ∈ lw_privs_1, lw_okq q := List.forall_mem_cons.mpr ⟨lw_p0, List.forall_mem_cons.mpr ⟨lw_p1, List.forall_mem_cons.mpr ⟨lw_p2, List.forall_mem_cons.mpr ⟨lw_p3, List.forall_mem_cons.mpr ⟨lw_p4, List.forall_mem_cons.mpr ⟨lw_p5, List.forall_mem_cons.mpr ⟨lw_p6, List.forall_mem_cons.mpr ⟨lw_p7, List.forall_mem_cons.mpr ⟨lw_p8, List.forall_mem_cons.mpr ⟨lw_p9, List.forall_mem_cons.mpr ⟨lw_p10, List.forall_mem_cons.mpr ⟨lw_p11, List.forall_mem_cons.mpr ⟨lw_p12, List.forall_mem_cons.mpr ⟨lw_p13, List.forall_mem_cons.mpr ⟨lw_p14, List.forall_mem_cons.mpr ⟨lw_p15, fun _ h => absurd h List.not_mem_nil⟩⟩⟩⟩⟩⟩⟩⟩⟩⟩⟩⟩⟩⟩⟩⟩
theorem lw_p16 : lw_okq (⟨"CheckCodesModel", "folded", "()I"⟩, 21) := ⟨⟨by decide +kernel, by decide +kernel⟩, List.mem_of_getElem? (i := 557) (by decide +kernel), List.mem_of_getElem? (i := 672) (by decide +kernel), List.mem_of_getElem? (i := 673) (by decide +kernel)⟩
theorem lw_p17 : lw_okq (⟨"CheckCodesModel", "plainCheck", "(J)I"⟩, 21) := ⟨⟨by decide +kernel, by decide +kernel⟩, List.mem_of_getElem? (i := 557) (by decide +kernel), List.mem_of_getElem? (i := 676) (by decide +kernel), List.mem_of_getElem? (i := 677) (by decide +kernel)⟩
theorem lw_p18 : lw_okq (⟨"CheckCodesModel", "all", "()J"⟩, 21) := ⟨⟨by decide +kernel, by decide +kernel⟩, List.mem_of_getElem? (i := 557) (by decide +kernel), List.mem_of_getElem? (i := 680) (by decide +kernel), List.mem_of_getElem? (i := 681) (by decide +kernel)⟩
theorem lw_p19 : lw_okq (⟨"CheckCodesModel", "nibbleSums", "(J)I"⟩, 21) := ⟨⟨by decide +kernel, by decide +kernel⟩, List.mem_of_getElem? (i := 557) (by decide +kernel), List.mem_of_getElem? (i := 684) (by decide +kernel), List.mem_of_getElem? (i := 685) (by decide +kernel)⟩
theorem lw_p20 : lw_okq (⟨"CheckCodesModel", "nibbles", "()I"⟩, 21) := ⟨⟨by decide +kernel, by decide +kernel⟩, List.mem_of_getElem? (i := 557) (by decide +kernel), List.mem_of_getElem? (i := 688) (by decide +kernel), List.mem_of_getElem? (i := 689) (by decide +kernel)⟩
theorem lw_p21 : lw_okq (⟨"CheckCodesModel", "reading", "(JI)I"⟩, 21) := ⟨⟨by decide +kernel, by decide +kernel⟩, List.mem_of_getElem? (i := 557) (by decide +kernel), List.mem_of_getElem? (i := 706) (by decide +kernel), List.mem_of_getElem? (i := 707) (by decide +kernel)⟩
theorem lw_p22 : lw_okq (⟨"CheckCodesModel", "mendNibbles", "(I)I"⟩, 21) := ⟨⟨by decide +kernel, by decide +kernel⟩, List.mem_of_getElem? (i := 557) (by decide +kernel), List.mem_of_getElem? (i := 710) (by decide +kernel), List.mem_of_getElem? (i := 711) (by decide +kernel)⟩
theorem lw_p23 : lw_okq (⟨"CheckCodesModel", "mendSums", "(IJI)I"⟩, 21) := ⟨⟨by decide +kernel, by decide +kernel⟩, List.mem_of_getElem? (i := 557) (by decide +kernel), List.mem_of_getElem? (i := 715) (by decide +kernel), List.mem_of_getElem? (i := 716) (by decide +kernel)⟩
theorem lw_p24 : lw_okq (⟨"CheckCodesModel", "mend", "(II)I"⟩, 21) := ⟨⟨by decide +kernel, by decide +kernel⟩, List.mem_of_getElem? (i := 557) (by decide +kernel), List.mem_of_getElem? (i := 719) (by decide +kernel), List.mem_of_getElem? (i := 720) (by decide +kernel)⟩
theorem lw_p25 : lw_okq (⟨"CheckCodesModel", "answerOf", "(II)I"⟩, 21) := ⟨⟨by decide +kernel, by decide +kernel⟩, List.mem_of_getElem? (i := 557) (by decide +kernel), List.mem_of_getElem? (i := 739) (by decide +kernel), List.mem_of_getElem? (i := 740) (by decide +kernel)⟩
theorem lw_p26 : lw_okq (⟨"CheckCodesModel", "answerTo", "(JI)I"⟩, 21) := ⟨⟨by decide +kernel, by decide +kernel⟩, List.mem_of_getElem? (i := 557) (by decide +kernel), List.mem_of_getElem? (i := 743) (by decide +kernel), List.mem_of_getElem? (i := 744) (by decide +kernel)⟩
theorem lw_p27 : lw_okq (⟨"CheckCodesModel", "many", "(ZI)I"⟩, 21) := ⟨⟨by decide +kernel, by decide +kernel⟩, List.mem_of_getElem? (i := 557) (by decide +kernel), List.mem_of_getElem? (i := 751) (by decide +kernel), List.mem_of_getElem? (i := 752) (by decide +kernel)⟩
theorem lw_p28 : lw_okq (⟨"CheckCodesModel", "answer", "(II)I"⟩, 21) := ⟨⟨by decide +kernel, by decide +kernel⟩, List.mem_of_getElem? (i := 557) (by decide +kernel), List.mem_of_getElem? (i := 759) (by decide +kernel), List.mem_of_getElem? (i := 760) (by decide +kernel)⟩
def lw_privs_2 : List (MethodName × Nat) := [(⟨"CheckCodesModel", "folded", "()I"⟩, 21), (⟨"CheckCodesModel", "plainCheck", "(J)I"⟩, 21), (⟨"CheckCodesModel", "all", "()J"⟩, 21), (⟨"CheckCodesModel", "nibbleSums", "(J)I"⟩, 21), (⟨"CheckCodesModel", "nibbles", "()I"⟩, 21), (⟨"CheckCodesModel", "reading", "(JI)I"⟩, 21), (⟨"CheckCodesModel", "mendNibbles", "(I)I"⟩, 21), (⟨"CheckCodesModel", "mendSums", "(IJI)I"⟩, 21), (⟨"CheckCodesModel", "mend", "(II)I"⟩, 21), (⟨"CheckCodesModel", "answerOf", "(II)I"⟩, 21), (⟨"CheckCodesModel", "answerTo", "(JI)I"⟩, 21), (⟨"CheckCodesModel", "many", "(ZI)I"⟩, 21), (⟨"CheckCodesModel", "answer", "(II)I"⟩, 21)]
theorem lw_r2 : ∀ q ∈ lw_privs_2, lw_okq q := List.forall_mem_cons.mpr ⟨lw_p16, List.forall_mem_cons.mpr ⟨lw_p17, List.forall_mem_cons.mpr ⟨lw_p18, List.forall_mem_cons.mpr ⟨lw_p19, List.forall_mem_cons.mpr ⟨lw_p20, List.forall_mem_cons.mpr ⟨lw_p21, List.forall_mem_cons.mpr ⟨lw_p22, List.forall_mem_cons.mpr ⟨lw_p23, List.forall_mem_cons.mpr ⟨lw_p24, List.forall_mem_cons.mpr ⟨lw_p25, List.forall_mem_cons.mpr ⟨lw_p26, List.forall_mem_cons.mpr ⟨lw_p27, List.forall_mem_cons.mpr ⟨lw_p28, fun _ h => absurd h List.not_mem_nil⟩⟩⟩⟩⟩⟩⟩⟩⟩⟩⟩⟩⟩
def lw_privs : List (MethodName × Nat) := lw_privs_1 ++ (lw_privs_2)
def lw_tbl : List Cond := k2_sels lw_privs ++ tables_1
theorem lw_privs_ok : ∀ q ∈ lw_privs, lw_okq q := by
  show ∀ q ∈ lw_privs_1 ++ (lw_privs_2), lw_okq q
  exact List.forall_mem_append.mpr ⟨lw_r1, lw_r2⟩
def R_C : String := "CheckCodes"
def R_K : String := "CheckCodes$Code"
def R_L : String := "CheckCodes$Lane"
def R_N : String := "CheckCodes$NibbleCode"
def R_P : String := "CheckCodes$ParityCode"
def R_S : String := "CheckCodes$SumCode"
def R_T : String := "CheckCodes$Turn"
def R_M : String := "CheckCodesModel"
def R_W : String := "CheckCodesLaw"
def R_JM : String := "java/lang/Math"
def R_JI : String := "java/lang/Integer"
def R_JL : String := "java/lang/Long"
def R_JA : String := "java/util/Arrays"
def R_JO : String := "java/lang/Object"
def F_C : u_T := fun k => match k with
  | 0 => ("CheckCodes", "kind", "I", true)
  | 1 => ("CheckCodes", "wordBits", "I", true)
  | 2 => ("CheckCodes", "storedBits", "I", true)
  | 3 => ("CheckCodes", "wordMask", "J", true)
  | 4 => ("CheckCodes", "checkMask", "I", true)
  | 5 => ("CheckCodes", "code", "LCheckCodes$Code;", true)
  | 6 => ("CheckCodes", "turn", "LCheckCodes$Turn;", true)
  | 7 => ("CheckCodes", "hasAddress", "Z", false)
  | 8 => ("CheckCodes", "addressFold", "I", false)
  | 9 => ("CheckCodes", "lastWord", "J", false)
  | 10 => ("CheckCodes", "lastCheck", "I", false)
  | 11 => ("CheckCodes", "lastTurned", "I", false)
  | 12 => ("CheckCodes", "answerCounts", "[I", true)
  | 13 => ("CheckCodes", "answersCounted", "Z", false)
  | 14 => ("CheckCodes", "longestMendedBurst", "I", false)
  | 15 => ("CheckCodes", "sparedRows", "[I", true)
  | _ => ("CheckCodes", "sparesUsed", "I", false)
def tf_C : Nat → FieldType := fun k => match k with
  | 0 => .int
  | 1 => .int
  | 2 => .int
  | 3 => .long
  | 4 => .int
  | 5 => .object "CheckCodes$Code"
  | 6 => .object "CheckCodes$Turn"
  | 7 => .boolean
  | 8 => .int
  | 9 => .long
  | 10 => .int
  | 11 => .int
  | 12 => .array .int
  | 13 => .boolean
  | 14 => .int
  | 15 => .array .int
  | _ => .int
theorem nf_C : ∀ a, a < 17 → ∀ b, b < 17 → a ≠ b → (F_C a).2.1 ≠ (F_C b).2.1 := by decide +kernel
theorem tf_C_ok : ∀ k, k < 17 → parseFieldDescriptor (F_C k).2.2.1 = some (tf_C k) := by decide +kernel
def F_S : u_T := fun k => match k with
  | 0 => ("CheckCodes$Code", "wordBits", "I", true)
  | 1 => ("CheckCodes$Code", "checkBits", "I", true)
  | 2 => ("CheckCodes$Code", "marks", "[I", true)
  | _ => ("CheckCodes$SumCode", "lanes", "[LCheckCodes$Lane;", true)
def tf_S : Nat → FieldType := fun k => match k with
  | 0 => .int
  | 1 => .int
  | 2 => .array .int
  | _ => .array (.object "CheckCodes$Lane")
theorem nf_S : ∀ a, a < 4 → ∀ b, b < 4 → a ≠ b → (F_S a).2.1 ≠ (F_S b).2.1 := by decide +kernel
theorem tf_S_ok : ∀ k, k < 4 → parseFieldDescriptor (F_S k).2.2.1 = some (tf_S k) := by decide +kernel
def F_P : u_T := fun k => match k with
  | 0 => ("CheckCodes$Code", "wordBits", "I", true)
  | 1 => ("CheckCodes$Code", "checkBits", "I", true)
  | _ => ("CheckCodes$Code", "marks", "[I", true)
def tf_P : Nat → FieldType := fun k => match k with
  | 0 => .int
  | 1 => .int
  | _ => .array .int
theorem nf_P : ∀ a, a < 3 → ∀ b, b < 3 → a ≠ b → (F_P a).2.1 ≠ (F_P b).2.1 := by decide +kernel
theorem tf_P_ok : ∀ k, k < 3 → parseFieldDescriptor (F_P k).2.2.1 = some (tf_P k) := by decide +kernel
def F_N : u_T := fun k => match k with
  | 0 => ("CheckCodes$Code", "wordBits", "I", true)
  | 1 => ("CheckCodes$Code", "checkBits", "I", true)
  | _ => ("CheckCodes$Code", "marks", "[I", true)
def tf_N : Nat → FieldType := fun k => match k with
  | 0 => .int
  | 1 => .int
  | _ => .array .int
theorem nf_N : ∀ a, a < 3 → ∀ b, b < 3 → a ≠ b → (F_N a).2.1 ≠ (F_N b).2.1 := by decide +kernel
theorem tf_N_ok : ∀ k, k < 3 → parseFieldDescriptor (F_N k).2.2.1 = some (tf_N k) := by decide +kernel
def F_L : u_T := fun k => match k with
  | 0 => ("CheckCodes$Lane", "checkBits", "I", true)
  | 1 => ("CheckCodes$Lane", "columns", "[I", true)
  | 2 => ("CheckCodes$Lane", "rowSums", "[I", true)
  | _ => ("CheckCodes$Lane", "bitAt", "[I", true)
def tf_L : Nat → FieldType := fun k => match k with
  | 0 => .int
  | 1 => .array .int
  | 2 => .array .int
  | _ => .array .int
theorem nf_L : ∀ a, a < 4 → ∀ b, b < 4 → a ≠ b → (F_L a).2.1 ≠ (F_L b).2.1 := by decide +kernel
theorem tf_L_ok : ∀ k, k < 4 → parseFieldDescriptor (F_L k).2.2.1 = some (tf_L k) := by decide +kernel
def F_T : u_T := fun k => match k with
  | 0 => ("CheckCodes$Turn", "wordFlips", "J", false)
  | _ => ("CheckCodes$Turn", "checkFlips", "I", false)
def tf_T : Nat → FieldType := fun k => match k with
  | 0 => .long
  | _ => .int
theorem nf_T : ∀ a, a < 2 → ∀ b, b < 2 → a ≠ b → (F_T a).2.1 ≠ (F_T b).2.1 := by decide +kernel
theorem tf_T_ok : ∀ k, k < 2 → parseFieldDescriptor (F_T k).2.2.1 = some (tf_T k) := by decide +kernel
def F_M : u_T := fun k => match k with
  | 0 => ("CheckCodesModel", "thrown", "I", false)
  | 1 => ("CheckCodesModel", "m", "I", true)
  | 2 => ("CheckCodesModel", "kind", "I", true)
  | 3 => ("CheckCodesModel", "\x72", "I", false)
  | 4 => ("CheckCodesModel", "codes", "I", true)
  | 5 => ("CheckCodesModel", "widths", "[I", true)
  | 6 => ("CheckCodesModel", "checks", "[I", true)
  | 7 => ("CheckCodesModel", "froms", "[I", true)
  | 8 => ("CheckCodesModel", "columns", "[I", true)
  | 9 => ("CheckCodesModel", "greatest", "I", false)
  | 10 => ("CheckCodesModel", "isFolded", "Z", false)
  | 11 => ("CheckCodesModel", "fold", "I", false)
  | 12 => ("CheckCodesModel", "made", "J", false)
  | 13 => ("CheckCodesModel", "madeCheck", "I", false)
  | 14 => ("CheckCodesModel", "bits", "I", false)
  | 15 => ("CheckCodesModel", "word", "J", false)
  | 16 => ("CheckCodesModel", "check", "I", false)
  | 17 => ("CheckCodesModel", "turned", "I", false)
  | 18 => ("CheckCodesModel", "spares", "[I", true)
  | 19 => ("CheckCodesModel", "used", "[Z", true)
  | _ => ("CheckCodesModel", "sums", "[I", true)
def tf_M : Nat → FieldType := fun k => match k with
  | 0 => .int
  | 1 => .int
  | 2 => .int
  | 3 => .int
  | 4 => .int
  | 5 => .array .int
  | 6 => .array .int
  | 7 => .array .int
  | 8 => .array .int
  | 9 => .int
  | 10 => .boolean
  | 11 => .int
  | 12 => .long
  | 13 => .int
  | 14 => .int
  | 15 => .long
  | 16 => .int
  | 17 => .int
  | 18 => .array .int
  | 19 => .array .boolean
  | _ => .array .int
theorem nf_M : ∀ a, a < 21 → ∀ b, b < 21 → a ≠ b → (F_M a).2.1 ≠ (F_M b).2.1 := by decide +kernel
theorem tf_M_ok : ∀ k, k < 21 → parseFieldDescriptor (F_M k).2.2.1 = some (tf_M k) := by decide +kernel
abbrev vwCl : List vw_C := [(R_C, F_C, 17), (R_S, F_S, 4), (R_P, F_P, 3), (R_N, F_N, 3), (R_L, F_L, 4), (R_T, F_T, 2), (R_M, F_M, 21)]
/-- the words that last: every method's own list but for its code -/
def wA : List Cond := lw_tbl.filter goodWord
theorem in_wA {w : Cond} (h : w ∈ lw_tbl) (g : goodWord w = true) : w ∈ wA := List.mem_filter.mpr ⟨h, g⟩
theorem wA_tbl {w : Cond} (h : w ∈ wA) : w ∈ lw_tbl := (List.mem_filter.mp h).1
theorem wA_good {c : Cond} (h : c ∈ wA) : GoodIn wA (c :: wA) := fun w hw => by
  rcases List.mem_cons.mp hw with h1 | h1
  · rw [h1]; exact ⟨h, good_of_word (List.mem_filter.mp h).2⟩
  · exact ⟨h1, good_of_word (List.mem_filter.mp h1).2⟩
theorem sub_pos {big ws : List Cond} (ps : List Nat) (h : ws = ps.filterMap (fun i => big[i]?)) : ∀ w ∈ ws, w ∈ big := by
  intro w hw
  rw [h] at hw
  obtain ⟨i, -, hi⟩ := List.mem_filterMap.mp hw
  exact List.mem_of_getElem? hi
set_option maxRecDepth 20000 in
theorem i_C : ∀ w ∈ u_ws R_C F_C 17, w ∈ wA := fun w h => in_wA (sub_pos [223, 225, 227, 229, 231, 233, 235, 237, 239, 241, 243, 245, 247, 249, 251, 253, 255] rfl w h) (by revert w; decide +kernel)
set_option maxRecDepth 20000 in
theorem i_S : ∀ w ∈ u_ws R_S F_S 4, w ∈ wA := fun w h => in_wA (sub_pos [142, 144, 146, 140] rfl w h) (by revert w; decide +kernel)
set_option maxRecDepth 20000 in
theorem i_P : ∀ w ∈ u_ws R_P F_P 3, w ∈ wA := fun w h => in_wA (sub_pos [161, 162, 163] rfl w h) (by revert w; decide +kernel)
set_option maxRecDepth 20000 in
theorem i_N : ∀ w ∈ u_ws R_N F_N 3, w ∈ wA := fun w h => in_wA (sub_pos [180, 181, 182] rfl w h) (by revert w; decide +kernel)
set_option maxRecDepth 20000 in
theorem i_L : ∀ w ∈ u_ws R_L F_L 4, w ∈ wA := fun w h => in_wA (sub_pos [106, 108, 110, 112] rfl w h) (by revert w; decide +kernel)
set_option maxRecDepth 20000 in
theorem i_T : ∀ w ∈ u_ws R_T F_T 2, w ∈ wA := fun w h => in_wA (sub_pos [201, 203] rfl w h) (by revert w; decide +kernel)
set_option maxRecDepth 20000 in
theorem i_M : ∀ w ∈ u_ws R_M F_M 21, w ∈ wA := fun w h => in_wA (sub_pos [624, 626, 628, 630, 632, 634, 636, 638, 640, 642, 644, 646, 648, 650, 652, 654, 656, 658, 660, 662, 664] rfl w h) (by revert w; decide +kernel)
abbrev b_C_init : ByteArray := prog_1_method_1_code
def y_C_init : MethodName := ⟨R_C, "<init>", "(II)V"⟩
abbrev b_JO_init : ByteArray := object_method_1_code
def y_JO_init : MethodName := ⟨R_JO, "<init>", "()V"⟩
abbrev b_JM_floorMod : ByteArray := prog_15_method_52_code
def y_JM_floorMod : MethodName := ⟨R_JM, "floorMod", "(JJ)J"⟩
abbrev b_JM_floorMod2 : ByteArray := prog_15_method_50_code
def y_JM_floorMod2 : MethodName := ⟨R_JM, "floorMod", "(II)I"⟩
abbrev b_C_codeOf : ByteArray := prog_1_method_17_code
def y_C_codeOf : MethodName := ⟨R_C, "codeOf", "(II)LCheckCodes$Code;"⟩
abbrev b_L_init : ByteArray := prog_3_method_1_code
def y_L_init : MethodName := ⟨R_L, "<init>", "(I)V"⟩
abbrev b_L_checkBitsFor : ByteArray := prog_3_method_2_code
def y_L_checkBitsFor : MethodName := ⟨R_L, "checkBitsFor", "(I)I"⟩
abbrev b_JA_fill : ByteArray := prog_20_method_103_code
def y_JA_fill : MethodName := ⟨R_JA, "fill", "([II)V"⟩
abbrev b_L_bestColumn : ByteArray := prog_3_method_3_code
def y_L_bestColumn : MethodName := ⟨R_L, "bestColumn", "([I[I)I"⟩
abbrev b_L_bestColumnOfWeight : ByteArray := prog_3_method_4_code
def y_L_bestColumnOfWeight : MethodName := ⟨R_L, "bestColumnOfWeight", "(I[I[I)I"⟩
abbrev b_JI_bitCount : ByteArray := prog_13_method_49_code
def y_JI_bitCount : MethodName := ⟨R_JI, "bitCount", "(I)I"⟩
abbrev b_L_greatestSumWith : ByteArray := prog_3_method_5_code
def y_L_greatestSumWith : MethodName := ⟨R_L, "greatestSumWith", "([II)I"⟩
abbrev b_L_addTo : ByteArray := prog_3_method_6_code
def y_L_addTo : MethodName := ⟨R_L, "addTo", "([II)V"⟩
abbrev b_S_init : ByteArray := prog_6_method_1_code
def y_S_init : MethodName := ⟨R_S, "<init>", "(I[LCheckCodes$Lane;)V"⟩
abbrev b_S_checkBitsOf : ByteArray := prog_6_method_2_code
def y_S_checkBitsOf : MethodName := ⟨R_S, "checkBitsOf", "([LCheckCodes$Lane;)I"⟩
abbrev b_S_marksOf : ByteArray := prog_6_method_3_code
def y_S_marksOf : MethodName := ⟨R_S, "marksOf", "(I[LCheckCodes$Lane;)[I"⟩
abbrev b_L_columnAt : ByteArray := prog_3_method_7_code
def y_L_columnAt : MethodName := ⟨R_L, "columnAt", "(I)I"⟩
abbrev b_K_init : ByteArray := prog_2_method_1_code
def y_K_init : MethodName := ⟨R_K, "<init>", "(II[I)V"⟩
abbrev b_JM_min : ByteArray := prog_15_method_69_code
def y_JM_min : MethodName := ⟨R_JM, "min", "(II)I"⟩
abbrev b_P_init : ByteArray := prog_5_method_1_code
def y_P_init : MethodName := ⟨R_P, "<init>", "(II)V"⟩
abbrev b_P_marksOf : ByteArray := prog_5_method_2_code
def y_P_marksOf : MethodName := ⟨R_P, "marksOf", "(II)[I"⟩
abbrev b_N_init : ByteArray := prog_4_method_1_code
def y_N_init : MethodName := ⟨R_N, "<init>", "(I)V"⟩
abbrev b_N_marksOf : ByteArray := prog_4_method_2_code
def y_N_marksOf : MethodName := ⟨R_N, "marksOf", "(I)[I"⟩
abbrev b_N_raised : ByteArray := prog_4_method_4_code
def y_N_raised : MethodName := ⟨R_N, "raised", "(II)I"⟩
abbrev b_N_timesG : ByteArray := prog_4_method_3_code
def y_N_timesG : MethodName := ⟨R_N, "timesG", "(I)I"⟩
abbrev b_C_lanesOfKind3 : ByteArray := prog_1_method_18_code
def y_C_lanesOfKind3 : MethodName := ⟨R_C, "lanesOfKind3", "(I)[LCheckCodes$Lane;"⟩
abbrev b_T_init : ByteArray := prog_7_method_1_code
def y_T_init : MethodName := ⟨R_T, "<init>", "()V"⟩
abbrev b_C_size : ByteArray := prog_1_method_2_code
def y_C_size : MethodName := ⟨R_C, "size", "(I)I"⟩
abbrev b_S_greatestRowSum : ByteArray := prog_6_method_5_code
def y_S_greatestRowSum : MethodName := ⟨R_S, "greatestRowSum", "()I"⟩
abbrev b_L_greatestSum : ByteArray := prog_3_method_8_code
def y_L_greatestSum : MethodName := ⟨R_L, "greatestSum", "()I"⟩
abbrev b_JM_max : ByteArray := prog_15_method_65_code
def y_JM_max : MethodName := ⟨R_JM, "max", "(II)I"⟩
abbrev b_K_greatestRowSum : ByteArray := prog_2_method_5_code
def y_K_greatestRowSum : MethodName := ⟨R_K, "greatestRowSum", "()I"⟩
abbrev b_C_plain : ByteArray := prog_1_method_5_code
def y_C_plain : MethodName := ⟨R_C, "plain", "()Z"⟩
abbrev b_C_check : ByteArray := prog_1_method_6_code
def y_C_check : MethodName := ⟨R_C, "check", "(J)I"⟩
abbrev b_K_sumOf : ByteArray := prog_2_method_6_code
def y_K_sumOf : MethodName := ⟨R_K, "sumOf", "(J)I"⟩
abbrev b_C_word : ByteArray := prog_1_method_8_code
def y_C_word : MethodName := ⟨R_C, "word", "()J"⟩
abbrev b_C_checkRead : ByteArray := prog_1_method_9_code
def y_C_checkRead : MethodName := ⟨R_C, "checkRead", "()I"⟩
abbrev b_C_turned : ByteArray := prog_1_method_10_code
def y_C_turned : MethodName := ⟨R_C, "turned", "()I"⟩
abbrev b_W_cell : ByteArray := method_2_code
def y_W_cell : MethodName := ⟨R_W, "cell", "([II)I"⟩
abbrev b_W_column : ByteArray := method_3_code
def y_W_column : MethodName := ⟨R_W, "column", "(LCheckCodes;I[J)I"⟩
abbrev b_C_column : ByteArray := prog_1_method_3_code
def y_C_column : MethodName := ⟨R_C, "column", "(I)I"⟩
abbrev b_S_columnOf : ByteArray := prog_6_method_4_code
def y_S_columnOf : MethodName := ⟨R_S, "columnOf", "(I)I"⟩
abbrev b_K_columnOf : ByteArray := prog_2_method_3_code
def y_K_columnOf : MethodName := ⟨R_K, "columnOf", "(I)I"⟩
abbrev b_W_address : ByteArray := method_4_code
def y_W_address : MethodName := ⟨R_W, "address", "(LCheckCodes;I[J)I"⟩
abbrev b_C_address : ByteArray := prog_1_method_4_code
def y_C_address : MethodName := ⟨R_C, "address", "(I)Z"⟩
abbrev b_C_foldOf : ByteArray := prog_1_method_19_code
def y_C_foldOf : MethodName := ⟨R_C, "foldOf", "(I)I"⟩
abbrev b_W_read : ByteArray := method_5_code
def y_W_read : MethodName := ⟨R_W, "read", "(LCheckCodes;JI[J)I"⟩
abbrev b_C_read : ByteArray := prog_1_method_7_code
def y_C_read : MethodName := ⟨R_C, "read", "(JI)I"⟩
abbrev b_N_judge : ByteArray := prog_4_method_5_code
def y_N_judge : MethodName := ⟨R_N, "judge", "(ILCheckCodes$Turn;)I"⟩
abbrev b_T_clear : ByteArray := prog_7_method_2_code
def y_T_clear : MethodName := ⟨R_T, "clear", "()V"⟩
abbrev b_N_wordFlipsFor : ByteArray := prog_4_method_6_code
def y_N_wordFlipsFor : MethodName := ⟨R_N, "wordFlipsFor", "(III)J"⟩
abbrev b_P_judge : ByteArray := prog_5_method_3_code
def y_P_judge : MethodName := ⟨R_P, "judge", "(ILCheckCodes$Turn;)I"⟩
abbrev b_S_judge : ByteArray := prog_6_method_6_code
def y_S_judge : MethodName := ⟨R_S, "judge", "(ILCheckCodes$Turn;)I"⟩
abbrev b_L_bitFor : ByteArray := prog_3_method_9_code
def y_L_bitFor : MethodName := ⟨R_L, "bitFor", "(I)I"⟩
abbrev b_JL_bitCount : ByteArray := prog_14_method_50_code
def y_JL_bitCount : MethodName := ⟨R_JL, "bitCount", "(J)I"⟩
abbrev b_W_flips : ByteArray := method_6_code
def y_W_flips : MethodName := ⟨R_W, "flips", "(LCheckCodes;II[J)I"⟩
abbrev b_C_flips : ByteArray := prog_1_method_11_code
def y_C_flips : MethodName := ⟨R_C, "flips", "(II)I"⟩
abbrev b_C_isStoredBit : ByteArray := prog_1_method_20_code
def y_C_isStoredBit : MethodName := ⟨R_C, "isStoredBit", "(I)Z"⟩
abbrev b_C_answerToPair : ByteArray := prog_1_method_25_code
def y_C_answerToPair : MethodName := ⟨R_C, "answerToPair", "(II)I"⟩
abbrev b_K_markOf : ByteArray := prog_2_method_4_code
def y_K_markOf : MethodName := ⟨R_K, "markOf", "(I)I"⟩
abbrev b_C_wordPart : ByteArray := prog_1_method_23_code
def y_C_wordPart : MethodName := ⟨R_C, "wordPart", "(I)J"⟩
abbrev b_C_checkPart : ByteArray := prog_1_method_24_code
def y_C_checkPart : MethodName := ⟨R_C, "checkPart", "(I)I"⟩
abbrev b_C_answerTo : ByteArray := prog_1_method_27_code
def y_C_answerTo : MethodName := ⟨R_C, "answerTo", "(IJI)I"⟩
abbrev b_W_table : ByteArray := method_7_code
def y_W_table : MethodName := ⟨R_W, "table", "(LCheckCodes;I[J)I"⟩
abbrev b_C_table : ByteArray := prog_1_method_12_code
def y_C_table : MethodName := ⟨R_C, "table", "(I)I"⟩
abbrev b_C_countAnswers : ByteArray := prog_1_method_28_code
def y_C_countAnswers : MethodName := ⟨R_C, "countAnswers", "()V"⟩
abbrev b_C_addToCount : ByteArray := prog_1_method_29_code
def y_C_addToCount : MethodName := ⟨R_C, "addToCount", "(I)V"⟩
abbrev b_W_bursts : ByteArray := method_8_code
def y_W_bursts : MethodName := ⟨R_W, "bursts", "(LCheckCodes;I[J)I"⟩
abbrev b_C_bursts : ByteArray := prog_1_method_13_code
def y_C_bursts : MethodName := ⟨R_C, "bursts", "(I)Z"⟩
abbrev b_C_findLongestMendedBurst : ByteArray := prog_1_method_30_code
def y_C_findLongestMendedBurst : MethodName := ⟨R_C, "findLongestMendedBurst", "()I"⟩
abbrev b_C_allMended : ByteArray := prog_1_method_31_code
def y_C_allMended : MethodName := ⟨R_C, "allMended", "(I)Z"⟩
abbrev b_C_answerToPattern : ByteArray := prog_1_method_26_code
def y_C_answerToPattern : MethodName := ⟨R_C, "answerToPattern", "(II)I"⟩
abbrev b_W_spare : ByteArray := method_9_code
def y_W_spare : MethodName := ⟨R_W, "spare", "(LCheckCodes;I[J)I"⟩
abbrev b_C_spare : ByteArray := prog_1_method_14_code
def y_C_spare : MethodName := ⟨R_C, "spare", "(I)I"⟩
abbrev b_C_isRow : ByteArray := prog_1_method_21_code
def y_C_isRow : MethodName := ⟨R_C, "isRow", "(I)Z"⟩
abbrev b_C_findSpare : ByteArray := prog_1_method_22_code
def y_C_findSpare : MethodName := ⟨R_C, "findSpare", "(I)I"⟩
abbrev b_W_spareOf : ByteArray := method_10_code
def y_W_spareOf : MethodName := ⟨R_W, "spareOf", "(LCheckCodes;I[J)I"⟩
abbrev b_C_spareOf : ByteArray := prog_1_method_15_code
def y_C_spareOf : MethodName := ⟨R_C, "spareOf", "(I)I"⟩
abbrev b_W_share : ByteArray := method_11_code
def y_W_share : MethodName := ⟨R_W, "share", "(LCheckCodes;I[J)I"⟩
abbrev b_C_share : ByteArray := prog_1_method_16_code
def y_C_share : MethodName := ⟨R_C, "share", "(I)I"⟩
abbrev b_C_greatestCommonDivisor : ByteArray := prog_1_method_32_code
def y_C_greatestCommonDivisor : MethodName := ⟨R_C, "greatestCommonDivisor", "(II)I"⟩
abbrev b_M_init : ByteArray := prog_9_method_1_code
def y_M_init : MethodName := ⟨R_M, "<init>", "(II)V"⟩
abbrev b_M_choose : ByteArray := prog_9_method_7_code
def y_M_choose : MethodName := ⟨R_M, "choose", "(I)V"⟩
abbrev b_M_weight : ByteArray := prog_9_method_5_code
def y_M_weight : MethodName := ⟨R_M, "weight", "(J)I"⟩
abbrev b_M_most : ByteArray := prog_9_method_6_code
def y_M_most : MethodName := ⟨R_M, "most", "(I)I"⟩
abbrev b_M_thrown : ByteArray := prog_9_method_2_code
def y_M_thrown : MethodName := ⟨R_M, "thrown", "()I"⟩
abbrev b_M_size : ByteArray := prog_9_method_22_code
def y_M_size : MethodName := ⟨R_M, "size", "(I)I"⟩
abbrev b_M_column : ByteArray := prog_9_method_23_code
def y_M_column : MethodName := ⟨R_M, "column", "(I)I"⟩
abbrev b_M_in : ByteArray := prog_9_method_4_code
def y_M_in : MethodName := ⟨R_M, "in", "(III)Z"⟩
abbrev b_M_fails : ByteArray := prog_9_method_3_code
def y_M_fails : MethodName := ⟨R_M, "fails", "(ZZ)Z"⟩
abbrev b_M_address : ByteArray := prog_9_method_24_code
def y_M_address : MethodName := ⟨R_M, "address", "(I)Z"⟩
abbrev b_M_plain : ByteArray := prog_9_method_25_code
def y_M_plain : MethodName := ⟨R_M, "plain", "()Z"⟩
abbrev b_M_check : ByteArray := prog_9_method_26_code
def y_M_check : MethodName := ⟨R_M, "check", "(J)I"⟩
abbrev b_M_folded : ByteArray := prog_9_method_15_code
def y_M_folded : MethodName := ⟨R_M, "folded", "()I"⟩
abbrev b_M_plainCheck : ByteArray := prog_9_method_14_code
def y_M_plainCheck : MethodName := ⟨R_M, "plainCheck", "(J)I"⟩
abbrev b_M_all : ByteArray := prog_9_method_9_code
def y_M_all : MethodName := ⟨R_M, "all", "()J"⟩
abbrev b_M_nibbleSums : ByteArray := prog_9_method_13_code
def y_M_nibbleSums : MethodName := ⟨R_M, "nibbleSums", "(J)I"⟩
abbrev b_M_nibbles : ByteArray := prog_9_method_12_code
def y_M_nibbles : MethodName := ⟨R_M, "nibbles", "()I"⟩
abbrev b_M_power : ByteArray := prog_9_method_11_code
def y_M_power : MethodName := ⟨R_M, "power", "(I)I"⟩
abbrev b_M_times : ByteArray := prog_9_method_10_code
def y_M_times : MethodName := ⟨R_M, "times", "(II)I"⟩
abbrev b_M_has : ByteArray := prog_9_method_8_code
def y_M_has : MethodName := ⟨R_M, "has", "(JI)Z"⟩
abbrev b_M_read : ByteArray := prog_9_method_27_code
def y_M_read : MethodName := ⟨R_M, "read", "(JI)I"⟩
abbrev b_M_reading : ByteArray := prog_9_method_19_code
def y_M_reading : MethodName := ⟨R_M, "reading", "(JI)I"⟩
abbrev b_M_mendNibbles : ByteArray := prog_9_method_18_code
def y_M_mendNibbles : MethodName := ⟨R_M, "mendNibbles", "(I)I"⟩
abbrev b_M_mendSums : ByteArray := prog_9_method_17_code
def y_M_mendSums : MethodName := ⟨R_M, "mendSums", "(IJI)I"⟩
abbrev b_M_mend : ByteArray := prog_9_method_16_code
def y_M_mend : MethodName := ⟨R_M, "mend", "(II)I"⟩
abbrev b_M_word : ByteArray := prog_9_method_28_code
def y_M_word : MethodName := ⟨R_M, "word", "()J"⟩
abbrev b_M_checkRead : ByteArray := prog_9_method_29_code
def y_M_checkRead : MethodName := ⟨R_M, "checkRead", "()I"⟩
abbrev b_M_turned : ByteArray := prog_9_method_30_code
def y_M_turned : MethodName := ⟨R_M, "turned", "()I"⟩
abbrev b_M_flips : ByteArray := prog_9_method_32_code
def y_M_flips : MethodName := ⟨R_M, "flips", "(II)I"⟩
abbrev b_M_answerOf : ByteArray := prog_9_method_31_code
def y_M_answerOf : MethodName := ⟨R_M, "answerOf", "(II)I"⟩
abbrev b_M_answerTo : ByteArray := prog_9_method_21_code
def y_M_answerTo : MethodName := ⟨R_M, "answerTo", "(JI)I"⟩
abbrev b_M_table : ByteArray := prog_9_method_34_code
def y_M_table : MethodName := ⟨R_M, "table", "(I)I"⟩
abbrev b_M_many : ByteArray := prog_9_method_33_code
def y_M_many : MethodName := ⟨R_M, "many", "(ZI)I"⟩
abbrev b_M_bursts : ByteArray := prog_9_method_35_code
def y_M_bursts : MethodName := ⟨R_M, "bursts", "(I)Z"⟩
abbrev b_M_answer : ByteArray := prog_9_method_20_code
def y_M_answer : MethodName := ⟨R_M, "answer", "(II)I"⟩
abbrev b_M_spare : ByteArray := prog_9_method_36_code
def y_M_spare : MethodName := ⟨R_M, "spare", "(I)I"⟩
abbrev b_M_spareOf : ByteArray := prog_9_method_37_code
def y_M_spareOf : MethodName := ⟨R_M, "spareOf", "(I)I"⟩
abbrev b_M_share : ByteArray := prog_9_method_38_code
def y_M_share : MethodName := ⟨R_M, "share", "(I)I"⟩
abbrev b_W_law : ByteArray := code
def y_W_law : MethodName := ⟨R_W, "law", "([I)Z"⟩
